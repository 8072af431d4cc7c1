def lp_X10_undo_1 (Y : JY) (o : Nat) (vv6 : Int32) (n : Nat) (vv13 : Int32) (mm14 : JM) : Option (JM) := match n with
  | 0 => none
  | n + 1 => if (24 : Int32) ≤ vv13 then (some mm14) else (if j_g (((24 : Int32) * (mm14 o 10)) + vv13) (j_ln Y (j_rf Y o 9)) then (if j_g (((24 : Int32) * vv6) + vv13) (j_ln Y (j_rf Y o 1)) then (lt_ (j_up mm14 (j_rf Y o 1) (((24 : Int32) * vv6) + vv13).toNatClampNeg (mm14 (j_rf Y o 9) (((24 : Int32) * (mm14 o 10)) + vv13).toNatClampNeg)) fun mm20 => lt_ (vv13 + (1 : Int32)) fun vv21 => lp_X10_undo_1 Y o vv6 n vv21 mm20) else none) else none)
def s_X10_undo (Y : JY) (M : JM) (o : Nat) : Option (Int32 × JM) := if (M o 10) = 0 then (lt_ (s_X10_fails Y M o (1 : Int32)) fun xx2 => some (xx2.1, xx2.2)) else (lt_ (j_up M o 10 ((M o 10) - (1 : Int32))) fun mm3 => if j_g (mm3 o 10) (j_ln Y (j_rf Y o 7)) then (lt_ (mm3 (j_rf Y o 7) (mm3 o 10).toNatClampNeg) fun vv6 => if j_g (mm3 o 10) (j_ln Y (j_rf Y o 8)) then (if j_g vv6 (j_ln Y (j_rf Y o 2)) then (lt_ (j_up mm3 (j_rf Y o 2) vv6.toNatClampNeg (mm3 (j_rf Y o 8) (mm3 o 10).toNatClampNeg)) fun mm11 => (lp_X10_undo_1 Y o vv6 j_fuel (0 : Int32) mm11).bind fun xx24 => lt_ (s_X10_done Y xx24 o vv6) fun xx23 => some (xx23.1, xx23.2)) else none) else none) else none)
set_option maxRecDepth 100000 in
set_option maxHeartbeats 4000000 in
theorem c_X10_undo {D : va_G} {Y : JY} {ty : Nat → ClassId} {ad : Nat → Nat} {sz : Nat} {l : Launch} {M : JM} (hY : j_ok Y) {o : Nat} (ho : j_kd Y o = 10) {r : Int32 × JM} (hE : s_X10_undo Y M o = some r) : JMi D Y ty ad sz l yX10_undo cX10_undo 3 (some .int) 1 21 [.ref (ad o)] M r.1 r.2 := by
  refine j_ofI hY (by decide +kernel) (Nat.le_of_ble_eq_true rfl) (fun p e s m below meth c args R Q A hRf hRl hA jc jw kr ls hl => ?_)
  have hx := jc.1
  have hb := jc.2.1
  have hl : lv_has ls 3 [(0, .ref (ad o))] := hl
  unfold s_X10_undo at hE
  obtain ⟨G0, eG0, hG0, hE⟩ := j_F0o hE
  refine lv_aload_n hx hb dX10_undo_0 rfl (lv_at hl 0 rfl) ?_
  refine jg_10_10 jc jw ho wd_6_69 dX10_undo_1 ?_
  refine lv_if_ne (tgt := 13) hx hb dX10_undo_4 (by decide) (fun c1 => ?_) (fun c1 => ?_)
  · rw [if_neg c1] at hE
    refine lv_aload_n hx hb dX10_undo_13 rfl (lv_at hl 0 rfl) ?_
    refine lv_dup hx hb dX10_undo_14 rfl ?_
    refine jg_10_10 jc jw ho wd_6_69 dX10_undo_15 ?_
    refine lv_iconst (v := 1) hx hb dX10_undo_18 (by decide) ?_
    refine lv_isub hx hb dX10_undo_19 ?_
    refine js_10_10 jc jw ho wd_6_69 dX10_undo_20 (fun H locs jw => ?_)
    obtain ⟨mm3, emm3, hE⟩ := j_lv hE
    rw [← emm3] at jw
    try dsimp only at hE
    refine lv_aload_n hx hb dX10_undo_23 rfl (lv_at hl 0 rfl) ?_
    refine jg_10_7 jc jw ho wd_6_66 dX10_undo_24 ?_
    have k4 := j_sub hY ho 7 (f := 100) rfl (by decide) (by decide) (by decide)
    refine lv_aload_n hx hb dX10_undo_27 rfl (lv_at hl 0 rfl) ?_
    refine jg_10_10 jc jw ho wd_6_69 dX10_undo_28 ?_
    rcases Classical.em (j_g (mm3 o 10) (j_ln Y (j_rf Y o 7))) with g5 | g5
    case inr => rw [if_neg g5] at hE; exact absurd hE (hG0 _)
    rw [if_pos g5] at hE
    refine jr_iald jc jw k4 (j_g_in g5) dX10_undo_31 ?_
    refine lv_topi (fun vv6 evv6 => ?_)
    replace hE := j_lu hE evv6
    try dsimp only at hE
    refine lv_istore_n (lv' := [(1, .int vv6), (0, .ref (ad o))]) hx hb dX10_undo_32 rfl hl (by decide) rfl (fun ls hl => ?_)
    refine lv_aload_n hx hb dX10_undo_33 rfl (lv_at hl 1 rfl) ?_
    refine jg_10_2 jc jw ho wd_6_61 dX10_undo_34 ?_
    have k7 := j_sub hY ho 2 (f := 100) rfl (by decide) (by decide) (by decide)
    refine lv_iload_n hx hb dX10_undo_37 rfl (lv_at hl 0 rfl) ?_
    refine lv_aload_n hx hb dX10_undo_38 rfl (lv_at hl 1 rfl) ?_
    refine jg_10_8 jc jw ho wd_6_67 dX10_undo_39 ?_
    have k8 := j_sub hY ho 8 (f := 100) rfl (by decide) (by decide) (by decide)
    refine lv_aload_n hx hb dX10_undo_42 rfl (lv_at hl 1 rfl) ?_
    refine jg_10_10 jc jw ho wd_6_69 dX10_undo_43 ?_
    rcases Classical.em (j_g (mm3 o 10) (j_ln Y (j_rf Y o 8))) with g9 | g9
    case inr => rw [if_neg g9] at hE; exact absurd hE (hG0 _)
    rw [if_pos g9] at hE
    refine jr_iald jc jw k8 (j_g_in g9) dX10_undo_46 ?_
    rcases Classical.em (j_g vv6 (j_ln Y (j_rf Y o 2))) with g10 | g10
    case inr => rw [if_neg g10] at hE; exact absurd hE (hG0 _)
    rw [if_pos g10] at hE
    refine jr_iast jc jw k7 (j_g_in g10) dX10_undo_47 (fun H locs jw => ?_)
    obtain ⟨mm11, emm11, hE⟩ := j_lv hE
    rw [← emm11] at jw
    try dsimp only at hE
    refine lv_iconst (v := 0) hx hb dX10_undo_48 (by decide) ?_
    refine lv_istore_n (lv' := [(2, .int (0 : Int32)), (1, .int vv6), (0, .ref (ad o))]) hx hb dX10_undo_49 rfl hl (by decide) rfl (fun ls hl => ?_)
    obtain ⟨G12, eG12, hG12, hE⟩ := j_ctxB hG0 hE
    have E12_87 : ∀ (mm22 : JM)  (H : Heap) (locs : List Loc) (ls : Array Slot), G12 (some mm22) = some r → JW D Y ty ad A s.heap mm22 H locs → lv_has ls 3 [(1, .int vv6), (0, .ref (ad o))] → W p l e R s m args below meth c H locs 0 0 Q (F0 m 87 ls []) := by
      intro mm22  H locs ls hE jw hl
      replace hE := j_popB eG12 hE
      try dsimp only at hE
      refine lv_aload_n hx hb dX10_undo_87 rfl (lv_at hl 1 rfl) ?_
      refine lv_iload_n hx hb dX10_undo_88 rfl (lv_at hl 0 rfl) ?_
      obtain ⟨xx23, exx23, hE⟩ := j_lv hE
      try dsimp only at hE
      refine jc_vi [.int vv6] [] jc jw hA ho (by decide) rfl (c_X10_done hY ho (M := mm22) exx23.symm) sd_X10_138 rfl hl.1 (j_hR hRf hRl rfl rfl) (Nat.le_of_ble_eq_true rfl) dX10_undo_89 (fun H locs jw => ?_)
      exact kr _ _ _ _ _ _ (congrArg Prod.fst (Option.some.inj (j_ret eG0 hE))) (congrArg Prod.snd (Option.some.inj (j_ret eG0 hE))) jw dX10_undo_92
    have LP12 : ∀ (n : Nat) (vv13 : Int32) (mm14 : JM) (H : Heap) (locs : List Loc) (ls : Array Slot), G12 (lp_X10_undo_1 Y o vv6 n vv13 mm14) = some r → JW D Y ty ad A s.heap mm14 H locs → lv_has ls 3 [(2, .int vv13), (1, .int vv6), (0, .ref (ad o))] → W p l e R s m args below meth c H locs 0 0 Q (F0 m 50 ls []) := by
      intro n
      induction n with
      | zero => intro vv13 mm14 H locs ls hE jw hl; exact absurd hE (hG12 _)
      | succ n ih =>
        intro vv13 mm14 H locs ls hE jw hl
        rw [lp_X10_undo_1] at hE
        refine lv_iload_n hx hb dX10_undo_50 rfl (lv_at hl 0 rfl) ?_
        refine lv_bipush (v := 24) hx hb dX10_undo_51 (by decide) ?_
        refine lv_icmp_ge (tgt := 87) hx hb dX10_undo_53 (by decide) (fun c15 => ?_) (fun c15 => ?_)
        · rw [if_pos c15] at hE
          exact E12_87 mm14  H locs ls hE jw (lv_sub hl [1, 2] rfl)
        · rw [if_neg c15] at hE
          refine lv_aload_n hx hb dX10_undo_56 rfl (lv_at hl 2 rfl) ?_
          refine jg_10_1 jc jw ho wd_6_60 dX10_undo_57 ?_
          have k16 := j_sub hY ho 1 (f := 100) rfl (by decide) (by decide) (by decide)
          refine lv_bipush (v := 24) hx hb dX10_undo_60 (by decide) ?_
          refine lv_iload_n hx hb dX10_undo_62 rfl (lv_at hl 1 rfl) ?_
          refine lv_imul hx hb dX10_undo_63 ?_
          refine lv_iload_n hx hb dX10_undo_64 rfl (lv_at hl 0 rfl) ?_
          refine lv_iadd hx hb dX10_undo_65 ?_
          refine lv_aload_n hx hb dX10_undo_66 rfl (lv_at hl 2 rfl) ?_
          refine jg_10_9 jc jw ho wd_6_68 dX10_undo_67 ?_
          have k17 := j_sub hY ho 9 (f := 100) rfl (by decide) (by decide) (by decide)
          refine lv_bipush (v := 24) hx hb dX10_undo_70 (by decide) ?_
          refine lv_aload_n hx hb dX10_undo_72 rfl (lv_at hl 2 rfl) ?_
          refine jg_10_10 jc jw ho wd_6_69 dX10_undo_73 ?_
          refine lv_imul hx hb dX10_undo_76 ?_
          refine lv_iload_n hx hb dX10_undo_77 rfl (lv_at hl 0 rfl) ?_
          refine lv_iadd hx hb dX10_undo_78 ?_
          rcases Classical.em (j_g (((24 : Int32) * (mm14 o 10)) + vv13) (j_ln Y (j_rf Y o 9))) with g18 | g18
          case inr => rw [if_neg g18] at hE; exact absurd hE (hG12 _)
          rw [if_pos g18] at hE
          refine jr_iald jc jw k17 (j_g_in g18) dX10_undo_79 ?_
          rcases Classical.em (j_g (((24 : Int32) * vv6) + vv13) (j_ln Y (j_rf Y o 1))) with g19 | g19
          case inr => rw [if_neg g19] at hE; exact absurd hE (hG12 _)
          rw [if_pos g19] at hE
          refine jr_iast jc jw k16 (j_g_in g19) dX10_undo_80 (fun H locs jw => ?_)
          obtain ⟨mm20, emm20, hE⟩ := j_lv hE
          rw [← emm20] at jw
          try dsimp only at hE
          obtain ⟨vv21, evv21, hE⟩ := j_lv hE
          try dsimp only at hE
          refine lv_iinc (v := vv21) (lv' := [(2, .int vv21), (1, .int vv6), (0, .ref (ad o))]) hx hb dX10_undo_81 hl (k := 0) rfl (by rw [evv21]; rfl) (by decide) rfl (fun ls hl => ?_)
          refine lv_goto (tgt := 50) hx hb dX10_undo_84 (by decide) ?_
          exact ih vv21 mm20 H locs ls hE jw (lv_sub hl [0, 1, 2] rfl)
    exact LP12 j_fuel (0 : Int32) mm11 H locs ls hE jw (lv_sub hl [0, 1, 2] rfl)
  · rw [if_pos c1] at hE
    refine lv_aload_n hx hb dX10_undo_7 rfl (lv_at hl 0 rfl) ?_
    refine lv_iconst (v := 1) hx hb dX10_undo_8 (by decide) ?_
    obtain ⟨xx2, exx2, hE⟩ := j_lv hE
    try dsimp only at hE
    refine jc_vi [.int (1 : Int32)] [] jc jw hA ho (by decide) rfl (c_X10_fails hY ho (M := M) exx2.symm) sd_X10_130 rfl hl.1 (j_hR hRf hRl rfl rfl) (Nat.le_of_ble_eq_true rfl) dX10_undo_9 (fun H locs jw => ?_)
    exact kr _ _ _ _ _ _ (congrArg Prod.fst (Option.some.inj (j_ret eG0 hE))) (congrArg Prod.snd (Option.some.inj (j_ret eG0 hE))) jw dX10_undo_12
def lp_X10_all_1 (Y : JY) (o : Nat) (M : JM) (n : Nat) (vv2 : Int32) (vv3 : Int32) : Option (Int32) := match n with
  | 0 => none
  | n + 1 => if (4 : Int32) ≤ vv3 then (some vv2) else (if j_g vv3 (j_ln Y (j_rf Y o 2)) then (lt_ (vv2 + (M (j_rf Y o 2) vv3.toNatClampNeg)) fun vv7 => lt_ (vv3 + (1 : Int32)) fun vv8 => lp_X10_all_1 Y o M n vv7 vv8) else none)
def s_X10_all (Y : JY) (M : JM) (o : Nat) : Option (Int32) := (lp_X10_all_1 Y o M j_fuel (0 : Int32) (0 : Int32)).bind fun xx9 => some xx9
set_option maxRecDepth 100000 in
set_option maxHeartbeats 4000000 in
theorem c_X10_all {D : va_G} {Y : JY} {ty : Nat → ClassId} {ad : Nat → Nat} {sz : Nat} {l : Launch} {M : JM} (hY : j_ok Y) {o : Nat} (ho : j_kd Y o = 10) {r : Int32} (hE : s_X10_all Y M o = some r) : JMi D Y ty ad sz l yX10_all cX10_all 3 (some .int) 0 0 [.ref (ad o)] M r M := by
  refine j_ofI hY (by decide +kernel) (Nat.le_of_ble_eq_true rfl) (fun p e s m below meth c args R Q A hRf hRl hA jc jw kr ls hl => ?_)
  have hx := jc.1
  have hb := jc.2.1
  have hl : lv_has ls 3 [(0, .ref (ad o))] := hl
  unfold s_X10_all at hE
  obtain ⟨G0, eG0, hG0, hE⟩ := j_F0o hE
  refine lv_iconst (v := 0) hx hb dX10_all_0 (by decide) ?_
  refine lv_istore_n (lv' := [(1, .int (0 : Int32)), (0, .ref (ad o))]) hx hb dX10_all_1 rfl hl (by decide) rfl (fun ls hl => ?_)
  refine lv_iconst (v := 0) hx hb dX10_all_2 (by decide) ?_
  refine lv_istore_n (lv' := [(2, .int (0 : Int32)), (1, .int (0 : Int32)), (0, .ref (ad o))]) hx hb dX10_all_3 rfl hl (by decide) rfl (fun ls hl => ?_)
  obtain ⟨G1, eG1, hG1, hE⟩ := j_ctxB hG0 hE
  have LP1 : ∀ (n : Nat) (vv2 : Int32) (vv3 : Int32) (H : Heap) (locs : List Loc) (ls : Array Slot), G1 (lp_X10_all_1 Y o M n vv2 vv3) = some r → JW D Y ty ad A s.heap M H locs → lv_has ls 3 [(2, .int vv3), (1, .int vv2), (0, .ref (ad o))] → W p l e R s m args below meth c H locs 0 0 Q (F0 m 4 ls []) := by
    intro n
    induction n with
    | zero => intro vv2 vv3 H locs ls hE jw hl; exact absurd hE (hG1 _)
    | succ n ih =>
      intro vv2 vv3 H locs ls hE jw hl
      rw [lp_X10_all_1] at hE
      refine lv_iload_n hx hb dX10_all_4 rfl (lv_at hl 0 rfl) ?_
      refine lv_iconst (v := 4) hx hb dX10_all_5 (by decide) ?_
      refine lv_icmp_ge (tgt := 24) hx hb dX10_all_6 (by decide) (fun c4 => ?_) (fun c4 => ?_)
      · rw [if_pos c4] at hE
        refine lv_iload_n hx hb dX10_all_24 rfl (lv_at hl 1 rfl) ?_
        replace hE := j_popB eG1 hE
        try dsimp only at hE
        exact kr _ _ _ _ _ _ (Option.some.inj (j_ret eG0 hE)) rfl jw dX10_all_25
      · rw [if_neg c4] at hE
        refine lv_iload_n hx hb dX10_all_9 rfl (lv_at hl 1 rfl) ?_
        refine lv_aload_n hx hb dX10_all_10 rfl (lv_at hl 2 rfl) ?_
        refine jg_10_2 jc jw ho wd_6_61 dX10_all_11 ?_
        have k5 := j_sub hY ho 2 (f := 100) rfl (by decide) (by decide) (by decide)
        refine lv_iload_n hx hb dX10_all_14 rfl (lv_at hl 0 rfl) ?_
        rcases Classical.em (j_g vv3 (j_ln Y (j_rf Y o 2))) with g6 | g6
        case inr => rw [if_neg g6] at hE; exact absurd hE (hG1 _)
        rw [if_pos g6] at hE
        refine jr_iald jc jw k5 (j_g_in g6) dX10_all_15 ?_
        refine lv_iadd hx hb dX10_all_16 ?_
        refine lv_topi (fun vv7 evv7 => ?_)
        replace hE := j_lu hE evv7
        try dsimp only at hE
        refine lv_istore_n (lv' := [(1, .int vv7), (2, .int vv3), (0, .ref (ad o))]) hx hb dX10_all_17 rfl hl (by decide) rfl (fun ls hl => ?_)
        obtain ⟨vv8, evv8, hE⟩ := j_lv hE
        try dsimp only at hE
        refine lv_iinc (v := vv8) (lv' := [(2, .int vv8), (1, .int vv7), (0, .ref (ad o))]) hx hb dX10_all_18 hl (k := 1) rfl (by rw [evv8]; rfl) (by decide) rfl (fun ls hl => ?_)
        refine lv_goto (tgt := 4) hx hb dX10_all_21 (by decide) ?_
        exact ih vv7 vv8 H locs ls hE jw (lv_sub hl [0, 1, 2] rfl)
  exact LP1 j_fuel (0 : Int32) (0 : Int32) s.heap [] ls hE jw (lv_sub hl [0, 1, 2] rfl)
def lp_X10_save_2 (Y : JY) (o : Nat) (n : Nat) (vv15 : Int32) (mm16 : JM) : Option (JM) := match n with
  | 0 => none
  | n + 1 => if (4 : Int32) ≤ vv15 then (some mm16) else (if j_g vv15 (j_ln Y (j_rf Y o 2)) then (if j_g vv15 (j_ln Y (j_rf Y o 13)) then (lt_ (j_up mm16 (j_rf Y o 13) vv15.toNatClampNeg (mm16 (j_rf Y o 2) vv15.toNatClampNeg)) fun mm22 => lt_ (vv15 + (1 : Int32)) fun vv23 => lp_X10_save_2 Y o n vv23 mm22) else none) else none)
def lp_X10_save_1 (Y : JY) (o : Nat) (n : Nat) (vv4 : Int32) (mm5 : JM) : Option (JM) := match n with
  | 0 => none
  | n + 1 => if (96 : Int32) ≤ vv4 then (some mm5) else (if j_g vv4 (j_ln Y (j_rf Y o 1)) then (if j_g vv4 (j_ln Y (j_rf Y o 12)) then (lt_ (j_up mm5 (j_rf Y o 12) vv4.toNatClampNeg (mm5 (j_rf Y o 1) vv4.toNatClampNeg)) fun mm11 => lt_ (vv4 + (1 : Int32)) fun vv12 => lp_X10_save_1 Y o n vv12 mm11) else none) else none)
def s_X10_save (Y : JY) (M : JM) (o : Nat) : Option (Int32 × JM) := lt_ (j_up M o 11 (1 : Int32)) fun mm1 => lt_ (j_up mm1 o 14 (mm1 o 3)) fun mm2 => (lp_X10_save_1 Y o j_fuel (0 : Int32) mm2).bind fun xx28 => (lp_X10_save_2 Y o j_fuel (0 : Int32) xx28).bind fun xx27 => (s_X10_all Y xx27 o).bind fun xx25 => lt_ (s_X10_done Y xx27 o xx25) fun xx26 => some (xx26.1, xx26.2)
set_option maxRecDepth 100000 in
set_option maxHeartbeats 4000000 in
theorem c_X10_save {D : va_G} {Y : JY} {ty : Nat → ClassId} {ad : Nat → Nat} {sz : Nat} {l : Launch} {M : JM} (hY : j_ok Y) {o : Nat} (ho : j_kd Y o = 10) {r : Int32 × JM} (hE : s_X10_save Y M o = some r) : JMi D Y ty ad sz l yX10_save cX10_save 2 (some .int) 1 22 [.ref (ad o)] M r.1 r.2 := by
  refine j_ofI hY (by decide +kernel) (Nat.le_of_ble_eq_true rfl) (fun p e s m below meth c args R Q A hRf hRl hA jc jw kr ls hl => ?_)
  have hx := jc.1
  have hb := jc.2.1
  have hl : lv_has ls 2 [(0, .ref (ad o))] := hl
  unfold s_X10_save at hE
  obtain ⟨G0, eG0, hG0, hE⟩ := j_F0o hE
  refine lv_aload_n hx hb dX10_save_0 rfl (lv_at hl 0 rfl) ?_
  refine lv_iconst (v := 1) hx hb dX10_save_1 (by decide) ?_
  refine js_10_11 jc jw ho wd_6_70 (by decide) dX10_save_2 (fun H locs jw => ?_)
  obtain ⟨mm1, emm1, hE⟩ := j_lv hE
  rw [← emm1] at jw
  try dsimp only at hE
  refine lv_aload_n hx hb dX10_save_5 rfl (lv_at hl 0 rfl) ?_
  refine lv_aload_n hx hb dX10_save_6 rfl (lv_at hl 0 rfl) ?_
  refine jg_10_3 jc jw ho wd_6_62 dX10_save_7 ?_
  refine js_10_14 jc jw ho wd_6_73 dX10_save_10 (fun H locs jw => ?_)
  obtain ⟨mm2, emm2, hE⟩ := j_lv hE
  rw [← emm2] at jw
  try dsimp only at hE
  refine lv_iconst (v := 0) hx hb dX10_save_13 (by decide) ?_
  refine lv_istore_n (lv' := [(1, .int (0 : Int32)), (0, .ref (ad o))]) hx hb dX10_save_14 rfl hl (by decide) rfl (fun ls hl => ?_)
  obtain ⟨G3, eG3, hG3, hE⟩ := j_ctxB hG0 hE
  have E3_39 : ∀ (mm13 : JM)  (H : Heap) (locs : List Loc) (ls : Array Slot), G3 (some mm13) = some r → JW D Y ty ad A s.heap mm13 H locs → lv_has ls 2 [(0, .ref (ad o))] → W p l e R s m args below meth c H locs 0 0 Q (F0 m 39 ls []) := by
    intro mm13  H locs ls hE jw hl
    replace hE := j_popB eG3 hE
    try dsimp only at hE
    refine lv_iconst (v := 0) hx hb dX10_save_39 (by decide) ?_
    refine lv_istore_n (lv' := [(1, .int (0 : Int32)), (0, .ref (ad o))]) hx hb dX10_save_40 rfl hl (by decide) rfl (fun ls hl => ?_)
    obtain ⟨G14, eG14, hG14, hE⟩ := j_ctxB hG0 hE
    have E14_64 : ∀ (mm24 : JM)  (H : Heap) (locs : List Loc) (ls : Array Slot), G14 (some mm24) = some r → JW D Y ty ad A s.heap mm24 H locs → lv_has ls 2 [(0, .ref (ad o))] → W p l e R s m args below meth c H locs 0 0 Q (F0 m 64 ls []) := by
      intro mm24  H locs ls hE jw hl
      replace hE := j_popB eG14 hE
      try dsimp only at hE
      refine lv_aload_n hx hb dX10_save_64 rfl (lv_at hl 0 rfl) ?_
      refine lv_aload_n hx hb dX10_save_65 rfl (lv_at hl 0 rfl) ?_
      obtain ⟨xx25, exx25, hE⟩ := j_bd hG0 hE
      try dsimp only at hE
      refine jc_vi [] [.ref (ad o)] jc jw hA ho (by decide) rfl (c_X10_all hY ho (M := mm24) exx25) sd_X10_331 rfl hl.1 (j_hR hRf hRl rfl rfl) (Nat.le_of_ble_eq_true rfl) dX10_save_66 (fun H locs jw => ?_)
      obtain ⟨xx26, exx26, hE⟩ := j_lv hE
      try dsimp only at hE
      refine jc_vi [.int xx25] [] jc jw hA ho (by decide) rfl (c_X10_done hY ho (M := mm24) exx26.symm) sd_X10_138 rfl hl.1 (j_hR hRf hRl rfl rfl) (Nat.le_of_ble_eq_true rfl) dX10_save_69 (fun H locs jw => ?_)
      exact kr _ _ _ _ _ _ (congrArg Prod.fst (Option.some.inj (j_ret eG0 hE))) (congrArg Prod.snd (Option.some.inj (j_ret eG0 hE))) jw dX10_save_72
    have LP14 : ∀ (n : Nat) (vv15 : Int32) (mm16 : JM) (H : Heap) (locs : List Loc) (ls : Array Slot), G14 (lp_X10_save_2 Y o n vv15 mm16) = some r → JW D Y ty ad A s.heap mm16 H locs → lv_has ls 2 [(1, .int vv15), (0, .ref (ad o))] → W p l e R s m args below meth c H locs 0 0 Q (F0 m 41 ls []) := by
      intro n
      induction n with
      | zero => intro vv15 mm16 H locs ls hE jw hl; exact absurd hE (hG14 _)
      | succ n ih =>
        intro vv15 mm16 H locs ls hE jw hl
        rw [lp_X10_save_2] at hE
        refine lv_iload_n hx hb dX10_save_41 rfl (lv_at hl 0 rfl) ?_
        refine lv_iconst (v := 4) hx hb dX10_save_42 (by decide) ?_
        refine lv_icmp_ge (tgt := 64) hx hb dX10_save_43 (by decide) (fun c17 => ?_) (fun c17 => ?_)
        · rw [if_pos c17] at hE
          exact E14_64 mm16  H locs ls hE jw (lv_sub hl [1] rfl)
        · rw [if_neg c17] at hE
          refine lv_aload_n hx hb dX10_save_46 rfl (lv_at hl 1 rfl) ?_
          refine jg_10_13 jc jw ho wd_6_72 dX10_save_47 ?_
          have k18 := j_sub hY ho 13 (f := 100) rfl (by decide) (by decide) (by decide)
          refine lv_iload_n hx hb dX10_save_50 rfl (lv_at hl 0 rfl) ?_
          refine lv_aload_n hx hb dX10_save_51 rfl (lv_at hl 1 rfl) ?_
          refine jg_10_2 jc jw ho wd_6_61 dX10_save_52 ?_
          have k19 := j_sub hY ho 2 (f := 100) rfl (by decide) (by decide) (by decide)
          refine lv_iload_n hx hb dX10_save_55 rfl (lv_at hl 0 rfl) ?_
          rcases Classical.em (j_g vv15 (j_ln Y (j_rf Y o 2))) with g20 | g20
          case inr => rw [if_neg g20] at hE; exact absurd hE (hG14 _)
          rw [if_pos g20] at hE
          refine jr_iald jc jw k19 (j_g_in g20) dX10_save_56 ?_
          rcases Classical.em (j_g vv15 (j_ln Y (j_rf Y o 13))) with g21 | g21
          case inr => rw [if_neg g21] at hE; exact absurd hE (hG14 _)
          rw [if_pos g21] at hE
          refine jr_iast jc jw k18 (j_g_in g21) dX10_save_57 (fun H locs jw => ?_)
          obtain ⟨mm22, emm22, hE⟩ := j_lv hE
          rw [← emm22] at jw
          try dsimp only at hE
          obtain ⟨vv23, evv23, hE⟩ := j_lv hE
          try dsimp only at hE
          refine lv_iinc (v := vv23) (lv' := [(1, .int vv23), (0, .ref (ad o))]) hx hb dX10_save_58 hl (k := 0) rfl (by rw [evv23]; rfl) (by decide) rfl (fun ls hl => ?_)
          refine lv_goto (tgt := 41) hx hb dX10_save_61 (by decide) ?_
          exact ih vv23 mm22 H locs ls hE jw (lv_sub hl [0, 1] rfl)
    exact LP14 j_fuel (0 : Int32) mm13 H locs ls hE jw (lv_sub hl [0, 1] rfl)
  have LP3 : ∀ (n : Nat) (vv4 : Int32) (mm5 : JM) (H : Heap) (locs : List Loc) (ls : Array Slot), G3 (lp_X10_save_1 Y o n vv4 mm5) = some r → JW D Y ty ad A s.heap mm5 H locs → lv_has ls 2 [(1, .int vv4), (0, .ref (ad o))] → W p l e R s m args below meth c H locs 0 0 Q (F0 m 15 ls []) := by
    intro n
    induction n with
    | zero => intro vv4 mm5 H locs ls hE jw hl; exact absurd hE (hG3 _)
    | succ n ih =>
      intro vv4 mm5 H locs ls hE jw hl
      rw [lp_X10_save_1] at hE
      refine lv_iload_n hx hb dX10_save_15 rfl (lv_at hl 0 rfl) ?_
      refine lv_bipush (v := 96) hx hb dX10_save_16 (by decide) ?_
      refine lv_icmp_ge (tgt := 39) hx hb dX10_save_18 (by decide) (fun c6 => ?_) (fun c6 => ?_)
      · rw [if_pos c6] at hE
        exact E3_39 mm5  H locs ls hE jw (lv_sub hl [1] rfl)
      · rw [if_neg c6] at hE
        refine lv_aload_n hx hb dX10_save_21 rfl (lv_at hl 1 rfl) ?_
        refine jg_10_12 jc jw ho wd_6_71 dX10_save_22 ?_
        have k7 := j_sub hY ho 12 (f := 100) rfl (by decide) (by decide) (by decide)
        refine lv_iload_n hx hb dX10_save_25 rfl (lv_at hl 0 rfl) ?_
        refine lv_aload_n hx hb dX10_save_26 rfl (lv_at hl 1 rfl) ?_
        refine jg_10_1 jc jw ho wd_6_60 dX10_save_27 ?_
        have k8 := j_sub hY ho 1 (f := 100) rfl (by decide) (by decide) (by decide)
        refine lv_iload_n hx hb dX10_save_30 rfl (lv_at hl 0 rfl) ?_
        rcases Classical.em (j_g vv4 (j_ln Y (j_rf Y o 1))) with g9 | g9
        case inr => rw [if_neg g9] at hE; exact absurd hE (hG3 _)
        rw [if_pos g9] at hE
        refine jr_iald jc jw k8 (j_g_in g9) dX10_save_31 ?_
        rcases Classical.em (j_g vv4 (j_ln Y (j_rf Y o 12))) with g10 | g10
        case inr => rw [if_neg g10] at hE; exact absurd hE (hG3 _)
        rw [if_pos g10] at hE
        refine jr_iast jc jw k7 (j_g_in g10) dX10_save_32 (fun H locs jw => ?_)
        obtain ⟨mm11, emm11, hE⟩ := j_lv hE
        rw [← emm11] at jw
        try dsimp only at hE
        obtain ⟨vv12, evv12, hE⟩ := j_lv hE
        try dsimp only at hE
        refine lv_iinc (v := vv12) (lv' := [(1, .int vv12), (0, .ref (ad o))]) hx hb dX10_save_33 hl (k := 0) rfl (by rw [evv12]; rfl) (by decide) rfl (fun ls hl => ?_)
        refine lv_goto (tgt := 15) hx hb dX10_save_36 (by decide) ?_
        exact ih vv12 mm11 H locs ls hE jw (lv_sub hl [0, 1] rfl)
  exact LP3 j_fuel (0 : Int32) mm2 H locs ls hE jw (lv_sub hl [0, 1] rfl)
def lp_X10_restore_2 (Y : JY) (o : Nat) (n : Nat) (vv16 : Int32) (mm17 : JM) : Option (JM) := match n with
  | 0 => none
  | n + 1 => if (4 : Int32) ≤ vv16 then (some mm17) else (if j_g vv16 (j_ln Y (j_rf Y o 13)) then (if j_g vv16 (j_ln Y (j_rf Y o 2)) then (lt_ (j_up mm17 (j_rf Y o 2) vv16.toNatClampNeg (mm17 (j_rf Y o 13) vv16.toNatClampNeg)) fun mm23 => lt_ (vv16 + (1 : Int32)) fun vv24 => lp_X10_restore_2 Y o n vv24 mm23) else none) else none)
def lp_X10_restore_1 (Y : JY) (o : Nat) (n : Nat) (vv5 : Int32) (mm6 : JM) : Option (JM) := match n with
  | 0 => none
  | n + 1 => if (96 : Int32) ≤ vv5 then (some mm6) else (if j_g vv5 (j_ln Y (j_rf Y o 12)) then (if j_g vv5 (j_ln Y (j_rf Y o 1)) then (lt_ (j_up mm6 (j_rf Y o 1) vv5.toNatClampNeg (mm6 (j_rf Y o 12) vv5.toNatClampNeg)) fun mm12 => lt_ (vv5 + (1 : Int32)) fun vv13 => lp_X10_restore_1 Y o n vv13 mm12) else none) else none)
def s_X10_restore (Y : JY) (M : JM) (o : Nat) : Option (Int32 × JM) := if (j_z (M o 11)) = 0 then (lt_ (s_X10_fails Y M o (1 : Int32)) fun xx2 => some (xx2.1, xx2.2)) else (lt_ (j_up M o 3 (M o 14)) fun mm3 => (lp_X10_restore_1 Y o j_fuel (0 : Int32) mm3).bind fun xx30 => (lp_X10_restore_2 Y o j_fuel (0 : Int32) xx30).bind fun xx29 => lt_ (j_up xx29 o 10 (0 : Int32)) fun mm26 => (s_X10_all Y mm26 o).bind fun xx27 => lt_ (s_X10_done Y mm26 o xx27) fun xx28 => some (xx28.1, xx28.2))
set_option maxRecDepth 100000 in
set_option maxHeartbeats 4000000 in
theorem c_X10_restore {D : va_G} {Y : JY} {ty : Nat → ClassId} {ad : Nat → Nat} {sz : Nat} {l : Launch} {M : JM} (hY : j_ok Y) {o : Nat} (ho : j_kd Y o = 10) {r : Int32 × JM} (hE : s_X10_restore Y M o = some r) : JMi D Y ty ad sz l yX10_restore cX10_restore 2 (some .int) 1 22 [.ref (ad o)] M r.1 r.2 := by
  refine j_ofI hY (by decide +kernel) (Nat.le_of_ble_eq_true rfl) (fun p e s m below meth c args R Q A hRf hRl hA jc jw kr ls hl => ?_)
  have hx := jc.1
  have hb := jc.2.1
  have hl : lv_has ls 2 [(0, .ref (ad o))] := hl
  unfold s_X10_restore at hE
  obtain ⟨G0, eG0, hG0, hE⟩ := j_F0o hE
  refine lv_aload_n hx hb dX10_restore_0 rfl (lv_at hl 0 rfl) ?_
  refine jg_10_11 jc jw ho wd_6_70 dX10_restore_1 ?_
  refine lv_if_ne (tgt := 13) hx hb dX10_restore_4 (by decide) (fun c1 => ?_) (fun c1 => ?_)
  · rw [if_neg c1] at hE
    refine lv_aload_n hx hb dX10_restore_13 rfl (lv_at hl 0 rfl) ?_
    refine lv_aload_n hx hb dX10_restore_14 rfl (lv_at hl 0 rfl) ?_
    refine jg_10_14 jc jw ho wd_6_73 dX10_restore_15 ?_
    refine js_10_3 jc jw ho wd_6_62 dX10_restore_18 (fun H locs jw => ?_)
    obtain ⟨mm3, emm3, hE⟩ := j_lv hE
    rw [← emm3] at jw
    try dsimp only at hE
    refine lv_iconst (v := 0) hx hb dX10_restore_21 (by decide) ?_
    refine lv_istore_n (lv' := [(1, .int (0 : Int32)), (0, .ref (ad o))]) hx hb dX10_restore_22 rfl hl (by decide) rfl (fun ls hl => ?_)
    obtain ⟨G4, eG4, hG4, hE⟩ := j_ctxB hG0 hE
    have E4_47 : ∀ (mm14 : JM)  (H : Heap) (locs : List Loc) (ls : Array Slot), G4 (some mm14) = some r → JW D Y ty ad A s.heap mm14 H locs → lv_has ls 2 [(0, .ref (ad o))] → W p l e R s m args below meth c H locs 0 0 Q (F0 m 47 ls []) := by
      intro mm14  H locs ls hE jw hl
      replace hE := j_popB eG4 hE
      try dsimp only at hE
      refine lv_iconst (v := 0) hx hb dX10_restore_47 (by decide) ?_
      refine lv_istore_n (lv' := [(1, .int (0 : Int32)), (0, .ref (ad o))]) hx hb dX10_restore_48 rfl hl (by decide) rfl (fun ls hl => ?_)
      obtain ⟨G15, eG15, hG15, hE⟩ := j_ctxB hG0 hE
      have E15_72 : ∀ (mm25 : JM)  (H : Heap) (locs : List Loc) (ls : Array Slot), G15 (some mm25) = some r → JW D Y ty ad A s.heap mm25 H locs → lv_has ls 2 [(0, .ref (ad o))] → W p l e R s m args below meth c H locs 0 0 Q (F0 m 72 ls []) := by
        intro mm25  H locs ls hE jw hl
        replace hE := j_popB eG15 hE
        try dsimp only at hE
        refine lv_aload_n hx hb dX10_restore_72 rfl (lv_at hl 0 rfl) ?_
        refine lv_iconst (v := 0) hx hb dX10_restore_73 (by decide) ?_
        refine js_10_10 jc jw ho wd_6_69 dX10_restore_74 (fun H locs jw => ?_)
        obtain ⟨mm26, emm26, hE⟩ := j_lv hE
        rw [← emm26] at jw
        try dsimp only at hE
        refine lv_aload_n hx hb dX10_restore_77 rfl (lv_at hl 0 rfl) ?_
        refine lv_aload_n hx hb dX10_restore_78 rfl (lv_at hl 0 rfl) ?_
        obtain ⟨xx27, exx27, hE⟩ := j_bd hG0 hE
        try dsimp only at hE
        refine jc_vi [] [.ref (ad o)] jc jw hA ho (by decide) rfl (c_X10_all hY ho (M := mm26) exx27) sd_X10_331 rfl hl.1 (j_hR hRf hRl rfl rfl) (Nat.le_of_ble_eq_true rfl) dX10_restore_79 (fun H locs jw => ?_)
        obtain ⟨xx28, exx28, hE⟩ := j_lv hE
        try dsimp only at hE
        refine jc_vi [.int xx27] [] jc jw hA ho (by decide) rfl (c_X10_done hY ho (M := mm26) exx28.symm) sd_X10_138 rfl hl.1 (j_hR hRf hRl rfl rfl) (Nat.le_of_ble_eq_true rfl) dX10_restore_82 (fun H locs jw => ?_)
        exact kr _ _ _ _ _ _ (congrArg Prod.fst (Option.some.inj (j_ret eG0 hE))) (congrArg Prod.snd (Option.some.inj (j_ret eG0 hE))) jw dX10_restore_85
      have LP15 : ∀ (n : Nat) (vv16 : Int32) (mm17 : JM) (H : Heap) (locs : List Loc) (ls : Array Slot), G15 (lp_X10_restore_2 Y o n vv16 mm17) = some r → JW D Y ty ad A s.heap mm17 H locs → lv_has ls 2 [(1, .int vv16), (0, .ref (ad o))] → W p l e R s m args below meth c H locs 0 0 Q (F0 m 49 ls []) := by
        intro n
        induction n with
        | zero => intro vv16 mm17 H locs ls hE jw hl; exact absurd hE (hG15 _)
        | succ n ih =>
          intro vv16 mm17 H locs ls hE jw hl
          rw [lp_X10_restore_2] at hE
          refine lv_iload_n hx hb dX10_restore_49 rfl (lv_at hl 0 rfl) ?_
          refine lv_iconst (v := 4) hx hb dX10_restore_50 (by decide) ?_
          refine lv_icmp_ge (tgt := 72) hx hb dX10_restore_51 (by decide) (fun c18 => ?_) (fun c18 => ?_)
          · rw [if_pos c18] at hE
            exact E15_72 mm17  H locs ls hE jw (lv_sub hl [1] rfl)
          · rw [if_neg c18] at hE
            refine lv_aload_n hx hb dX10_restore_54 rfl (lv_at hl 1 rfl) ?_
            refine jg_10_2 jc jw ho wd_6_61 dX10_restore_55 ?_
            have k19 := j_sub hY ho 2 (f := 100) rfl (by decide) (by decide) (by decide)
            refine lv_iload_n hx hb dX10_restore_58 rfl (lv_at hl 0 rfl) ?_
            refine lv_aload_n hx hb dX10_restore_59 rfl (lv_at hl 1 rfl) ?_
            refine jg_10_13 jc jw ho wd_6_72 dX10_restore_60 ?_
            have k20 := j_sub hY ho 13 (f := 100) rfl (by decide) (by decide) (by decide)
            refine lv_iload_n hx hb dX10_restore_63 rfl (lv_at hl 0 rfl) ?_
            rcases Classical.em (j_g vv16 (j_ln Y (j_rf Y o 13))) with g21 | g21
            case inr => rw [if_neg g21] at hE; exact absurd hE (hG15 _)
            rw [if_pos g21] at hE
            refine jr_iald jc jw k20 (j_g_in g21) dX10_restore_64 ?_
            rcases Classical.em (j_g vv16 (j_ln Y (j_rf Y o 2))) with g22 | g22
            case inr => rw [if_neg g22] at hE; exact absurd hE (hG15 _)
            rw [if_pos g22] at hE
            refine jr_iast jc jw k19 (j_g_in g22) dX10_restore_65 (fun H locs jw => ?_)
            obtain ⟨mm23, emm23, hE⟩ := j_lv hE
            rw [← emm23] at jw
            try dsimp only at hE
            obtain ⟨vv24, evv24, hE⟩ := j_lv hE
            try dsimp only at hE
            refine lv_iinc (v := vv24) (lv' := [(1, .int vv24), (0, .ref (ad o))]) hx hb dX10_restore_66 hl (k := 0) rfl (by rw [evv24]; rfl) (by decide) rfl (fun ls hl => ?_)
            refine lv_goto (tgt := 49) hx hb dX10_restore_69 (by decide) ?_
            exact ih vv24 mm23 H locs ls hE jw (lv_sub hl [0, 1] rfl)
      exact LP15 j_fuel (0 : Int32) mm14 H locs ls hE jw (lv_sub hl [0, 1] rfl)
    have LP4 : ∀ (n : Nat) (vv5 : Int32) (mm6 : JM) (H : Heap) (locs : List Loc) (ls : Array Slot), G4 (lp_X10_restore_1 Y o n vv5 mm6) = some r → JW D Y ty ad A s.heap mm6 H locs → lv_has ls 2 [(1, .int vv5), (0, .ref (ad o))] → W p l e R s m args below meth c H locs 0 0 Q (F0 m 23 ls []) := by
      intro n
      induction n with
      | zero => intro vv5 mm6 H locs ls hE jw hl; exact absurd hE (hG4 _)
      | succ n ih =>
        intro vv5 mm6 H locs ls hE jw hl
        rw [lp_X10_restore_1] at hE
        refine lv_iload_n hx hb dX10_restore_23 rfl (lv_at hl 0 rfl) ?_
        refine lv_bipush (v := 96) hx hb dX10_restore_24 (by decide) ?_
        refine lv_icmp_ge (tgt := 47) hx hb dX10_restore_26 (by decide) (fun c7 => ?_) (fun c7 => ?_)
        · rw [if_pos c7] at hE
          exact E4_47 mm6  H locs ls hE jw (lv_sub hl [1] rfl)
        · rw [if_neg c7] at hE
          refine lv_aload_n hx hb dX10_restore_29 rfl (lv_at hl 1 rfl) ?_
          refine jg_10_1 jc jw ho wd_6_60 dX10_restore_30 ?_
          have k8 := j_sub hY ho 1 (f := 100) rfl (by decide) (by decide) (by decide)
          refine lv_iload_n hx hb dX10_restore_33 rfl (lv_at hl 0 rfl) ?_
          refine lv_aload_n hx hb dX10_restore_34 rfl (lv_at hl 1 rfl) ?_
          refine jg_10_12 jc jw ho wd_6_71 dX10_restore_35 ?_
          have k9 := j_sub hY ho 12 (f := 100) rfl (by decide) (by decide) (by decide)
          refine lv_iload_n hx hb dX10_restore_38 rfl (lv_at hl 0 rfl) ?_
          rcases Classical.em (j_g vv5 (j_ln Y (j_rf Y o 12))) with g10 | g10
          case inr => rw [if_neg g10] at hE; exact absurd hE (hG4 _)
          rw [if_pos g10] at hE
          refine jr_iald jc jw k9 (j_g_in g10) dX10_restore_39 ?_
          rcases Classical.em (j_g vv5 (j_ln Y (j_rf Y o 1))) with g11 | g11
          case inr => rw [if_neg g11] at hE; exact absurd hE (hG4 _)
          rw [if_pos g11] at hE
          refine jr_iast jc jw k8 (j_g_in g11) dX10_restore_40 (fun H locs jw => ?_)
          obtain ⟨mm12, emm12, hE⟩ := j_lv hE
          rw [← emm12] at jw
          try dsimp only at hE
          obtain ⟨vv13, evv13, hE⟩ := j_lv hE
          try dsimp only at hE
          refine lv_iinc (v := vv13) (lv' := [(1, .int vv13), (0, .ref (ad o))]) hx hb dX10_restore_41 hl (k := 0) rfl (by rw [evv13]; rfl) (by decide) rfl (fun ls hl => ?_)
          refine lv_goto (tgt := 23) hx hb dX10_restore_44 (by decide) ?_
          exact ih vv13 mm12 H locs ls hE jw (lv_sub hl [0, 1] rfl)
    exact LP4 j_fuel (0 : Int32) mm3 H locs ls hE jw (lv_sub hl [0, 1] rfl)
  · rw [if_pos c1] at hE
    refine lv_aload_n hx hb dX10_restore_7 rfl (lv_at hl 0 rfl) ?_
    refine lv_iconst (v := 1) hx hb dX10_restore_8 (by decide) ?_
    obtain ⟨xx2, exx2, hE⟩ := j_lv hE
    try dsimp only at hE
    refine jc_vi [.int (1 : Int32)] [] jc jw hA ho (by decide) rfl (c_X10_fails hY ho (M := M) exx2.symm) sd_X10_130 rfl hl.1 (j_hR hRf hRl rfl rfl) (Nat.le_of_ble_eq_true rfl) dX10_restore_9 (fun H locs jw => ?_)
    exact kr _ _ _ _ _ _ (congrArg Prod.fst (Option.some.inj (j_ret eG0 hE))) (congrArg Prod.snd (Option.some.inj (j_ret eG0 hE))) jw dX10_restore_12

def lp_X10_copy_1 (Y : JY) (p1 : Int32) (o : Nat) (n : Nat) (vv8 : Int32) (mm9 : JM) : Option (JM) := match n with
  | 0 => none
  | n + 1 => if j_g p1 (j_ln Y (j_rf Y o 2)) then (if (mm9 (j_rf Y o 2) p1.toNatClampNeg) ≤ vv8 then (some mm9) else (if j_g (((24 : Int32) * p1) + vv8) (j_ln Y (j_rf Y o 1)) then (if j_g vv8 (j_ln Y (j_rf Y o 15)) then (lt_ (j_up mm9 (j_rf Y o 15) vv8.toNatClampNeg (mm9 (j_rf Y o 1) (((24 : Int32) * p1) + vv8).toNatClampNeg)) fun mm17 => lt_ (vv8 + (1 : Int32)) fun vv18 => lp_X10_copy_1 Y p1 o n vv18 mm17) else none) else none)) else none
def s_X10_copy (Y : JY) (M : JM) (o : Nat) (p1 : Int32) (p2 : Int32) : Option (Int32 × JM) := if (s_X10_isRegister Y M p1) = 0 ∨ (s_X10_isRegister Y M p2) = 0 then (lt_ (s_X10_fails Y M o (1 : Int32)) fun xx5 => some (xx5.1, xx5.2)) else ((s_X10_remembers Y M o p2).bind fun xx6 => (lp_X10_copy_1 Y p1 o j_fuel (0 : Int32) xx6).bind fun xx26 => if j_g p1 (j_ln Y (j_rf Y o 2)) then ((s_X10_holds Y xx26 o p2 (j_rf Y o 15) (xx26 (j_rf Y o 2) p1.toNatClampNeg)).bind fun xx23 => if j_g p2 (j_ln Y (j_rf Y o 2)) then (lt_ (s_X10_done Y xx23 o (xx23 (j_rf Y o 2) p2.toNatClampNeg)) fun xx25 => some (xx25.1, xx25.2)) else none) else none)
set_option maxRecDepth 100000 in
set_option maxHeartbeats 4000000 in
theorem c_X10_copy {D : va_G} {Y : JY} {ty : Nat → ClassId} {ad : Nat → Nat} {sz : Nat} {l : Launch} {M : JM} (hY : j_ok Y) {o : Nat} {p1 : Int32} {p2 : Int32} (ho : j_kd Y o = 10) {r : Int32 × JM} (hE : s_X10_copy Y M o p1 p2 = some r) : JMi D Y ty ad sz l yX10_copy cX10_copy 4 (some .int) 2 42 [.ref (ad o), .int p1, .int p2] M r.1 r.2 := by
  refine j_ofI hY (by decide +kernel) (Nat.le_of_ble_eq_true rfl) (fun p e s m below meth c args R Q A hRf hRl hA jc jw kr ls hl => ?_)
  have hx := jc.1
  have hb := jc.2.1
  have hl : lv_has ls 4 [(0, .ref (ad o)), (1, .int p1), (2, .int p2)] := hl
  unfold s_X10_copy at hE
  obtain ⟨G0, eG0, hG0, hE⟩ := j_F0o hE
  refine lv_iload_n hx hb dX10_copy_0 rfl (lv_at hl 1 rfl) ?_
  refine jc_sz [.int p1] [] jc jw hA (c_X10_isRegister hY  (M := M) rfl) sd_X10_126 rfl hl.1 (j_hR hRf hRl rfl rfl) (Nat.le_of_ble_eq_true rfl) dX10_copy_1 (fun H locs jw hz => ?_)
  have z_1 := hz
  have B27 : ∀ (H : Heap) (locs : List Loc), JW D Y ty ad A s.heap M H locs → ((s_X10_isRegister Y M p1) = 0 ∨ (s_X10_isRegister Y M p2) = 0) → W p l e R s m args below meth c H locs 0 0 Q (F0 m 14 ls []) := by
    intro H locs jw hcc
    rw [if_pos hcc] at hE
    refine lv_aload_n hx hb dX10_copy_14 rfl (lv_at hl 0 rfl) ?_
    refine lv_iconst (v := 1) hx hb dX10_copy_15 (by decide) ?_
    obtain ⟨xx5, exx5, hE⟩ := j_lv hE
    try dsimp only at hE
    refine jc_vi [.int (1 : Int32)] [] jc jw hA ho (by decide) rfl (c_X10_fails hY ho (M := M) exx5.symm) sd_X10_130 rfl hl.1 (j_hR hRf hRl rfl rfl) (Nat.le_of_ble_eq_true rfl) dX10_copy_16 (fun H locs jw => ?_)
    exact kr _ _ _ _ _ _ (congrArg Prod.fst (Option.some.inj (j_ret eG0 hE))) (congrArg Prod.snd (Option.some.inj (j_ret eG0 hE))) jw dX10_copy_19
  refine lv_if_eq (tgt := 14) hx hb dX10_copy_4 (by decide) (fun c2 => B27 _ _ jw (Or.inl c2)) (fun c2 => ?_)
  refine lv_iload_n hx hb dX10_copy_7 rfl (lv_at hl 2 rfl) ?_
  refine jc_sz [.int p2] [] jc jw hA (c_X10_isRegister hY  (M := M) rfl) sd_X10_126 rfl hl.1 (j_hR hRf hRl rfl rfl) (Nat.le_of_ble_eq_true rfl) dX10_copy_8 (fun H locs jw hz => ?_)
  have z_3 := hz
  refine lv_if_ne (tgt := 20) hx hb dX10_copy_11 (by decide) (fun c4 => ?_) (fun c4 => B27 _ _ jw (Or.inr c4))
  rw [if_neg (fun hq => hq.elim (fun hq => (j_abs c2 hq)) (fun hq => (j_abs c4 hq)))] at hE
  refine lv_aload_n hx hb dX10_copy_20 rfl (lv_at hl 0 rfl) ?_
  refine lv_iload_n hx hb dX10_copy_21 rfl (lv_at hl 2 rfl) ?_
  obtain ⟨xx6, exx6, hE⟩ := j_bd hG0 hE
  try dsimp only at hE
  refine jc_vv [.int p2] [] jc jw hA ho (by decide) rfl (c_X10_remembers hY ho (M := M) exx6) sd_X10_134 rfl hl.1 (j_hR hRf hRl rfl rfl) (Nat.le_of_ble_eq_true rfl) dX10_copy_22 (fun H locs jw => ?_)
  refine lv_iconst (v := 0) hx hb dX10_copy_25 (by decide) ?_
  refine lv_istore_n (lv' := [(3, .int (0 : Int32)), (0, .ref (ad o)), (1, .int p1), (2, .int p2)]) hx hb dX10_copy_26 rfl hl (by decide) rfl (fun ls hl => ?_)
  obtain ⟨G7, eG7, hG7, hE⟩ := j_ctxB hG0 hE
  have E7_60 : ∀ (mm19 : JM)  (H : Heap) (locs : List Loc) (ls : Array Slot), G7 (some mm19) = some r → JW D Y ty ad A s.heap mm19 H locs → lv_has ls 4 [(0, .ref (ad o)), (1, .int p1), (2, .int p2)] → W p l e R s m args below meth c H locs 0 0 Q (F0 m 60 ls []) := by
    intro mm19  H locs ls hE jw hl
    replace hE := j_popB eG7 hE
    try dsimp only at hE
    refine lv_aload_n hx hb dX10_copy_60 rfl (lv_at hl 0 rfl) ?_
    refine lv_iload_n hx hb dX10_copy_61 rfl (lv_at hl 2 rfl) ?_
    refine lv_aload_n hx hb dX10_copy_62 rfl (lv_at hl 0 rfl) ?_
    refine jg_10_15 jc jw ho wd_6_74 dX10_copy_63 ?_
    have k20 := j_sub hY ho 15 (f := 100) rfl (by decide) (by decide) (by decide)
    refine lv_aload_n hx hb dX10_copy_66 rfl (lv_at hl 0 rfl) ?_
    refine jg_10_2 jc jw ho wd_6_61 dX10_copy_67 ?_
    have k21 := j_sub hY ho 2 (f := 100) rfl (by decide) (by decide) (by decide)
    refine lv_iload_n hx hb dX10_copy_70 rfl (lv_at hl 1 rfl) ?_
    rcases Classical.em (j_g p1 (j_ln Y (j_rf Y o 2))) with g22 | g22
    case inr => rw [if_neg g22] at hE; exact absurd hE (hG0 _)
    rw [if_pos g22] at hE
    refine jr_iald jc jw k21 (j_g_in g22) dX10_copy_71 ?_
    obtain ⟨xx23, exx23, hE⟩ := j_bd hG0 hE
    try dsimp only at hE
    refine jc_vv [.int p2, .ref (ad (j_rf Y o 15)), .int (mm19 (j_rf Y o 2) p1.toNatClampNeg)] [] jc jw hA ho (by decide) rfl (c_X10_holds hY ho k20 (M := mm19) exx23) sd_X10_141 rfl hl.1 (j_hR hRf hRl rfl rfl) (Nat.le_of_ble_eq_true rfl) dX10_copy_72 (fun H locs jw => ?_)
    refine lv_aload_n hx hb dX10_copy_75 rfl (lv_at hl 0 rfl) ?_
    refine lv_aload_n hx hb dX10_copy_76 rfl (lv_at hl 0 rfl) ?_
    refine jg_10_2 jc jw ho wd_6_61 dX10_copy_77 ?_
    refine lv_iload_n hx hb dX10_copy_80 rfl (lv_at hl 2 rfl) ?_
    rcases Classical.em (j_g p2 (j_ln Y (j_rf Y o 2))) with g24 | g24
    case inr => rw [if_neg g24] at hE; exact absurd hE (hG0 _)
    rw [if_pos g24] at hE
    refine jr_iald jc jw k21 (j_g_in g24) dX10_copy_81 ?_
    obtain ⟨xx25, exx25, hE⟩ := j_lv hE
    try dsimp only at hE
    refine jc_vi [.int (xx23 (j_rf Y o 2) p2.toNatClampNeg)] [] jc jw hA ho (by decide) rfl (c_X10_done hY ho (M := xx23) exx25.symm) sd_X10_138 rfl hl.1 (j_hR hRf hRl rfl rfl) (Nat.le_of_ble_eq_true rfl) dX10_copy_82 (fun H locs jw => ?_)
    exact kr _ _ _ _ _ _ (congrArg Prod.fst (Option.some.inj (j_ret eG0 hE))) (congrArg Prod.snd (Option.some.inj (j_ret eG0 hE))) jw dX10_copy_85
  have LP7 : ∀ (n : Nat) (vv8 : Int32) (mm9 : JM) (H : Heap) (locs : List Loc) (ls : Array Slot), G7 (lp_X10_copy_1 Y p1 o n vv8 mm9) = some r → JW D Y ty ad A s.heap mm9 H locs → lv_has ls 4 [(3, .int vv8), (0, .ref (ad o)), (1, .int p1), (2, .int p2)] → W p l e R s m args below meth c H locs 0 0 Q (F0 m 27 ls []) := by
    intro n
    induction n with
    | zero => intro vv8 mm9 H locs ls hE jw hl; exact absurd hE (hG7 _)
    | succ n ih =>
      intro vv8 mm9 H locs ls hE jw hl
      rw [lp_X10_copy_1] at hE
      refine lv_iload_n hx hb dX10_copy_27 rfl (lv_at hl 0 rfl) ?_
      refine lv_aload_n hx hb dX10_copy_28 rfl (lv_at hl 1 rfl) ?_
      refine jg_10_2 jc jw ho wd_6_61 dX10_copy_29 ?_
      have k10 := j_sub hY ho 2 (f := 100) rfl (by decide) (by decide) (by decide)
      refine lv_iload_n hx hb dX10_copy_32 rfl (lv_at hl 2 rfl) ?_
      rcases Classical.em (j_g p1 (j_ln Y (j_rf Y o 2))) with g11 | g11
      case inr => rw [if_neg g11] at hE; exact absurd hE (hG7 _)
      rw [if_pos g11] at hE
      refine jr_iald jc jw k10 (j_g_in g11) dX10_copy_33 ?_
      refine lv_icmp_ge (tgt := 60) hx hb dX10_copy_34 (by decide) (fun c12 => ?_) (fun c12 => ?_)
      · rw [if_pos c12] at hE
        exact E7_60 mm9  H locs ls hE jw (lv_sub hl [1, 2, 3] rfl)
      · rw [if_neg c12] at hE
        refine lv_aload_n hx hb dX10_copy_37 rfl (lv_at hl 1 rfl) ?_
        refine jg_10_15 jc jw ho wd_6_74 dX10_copy_38 ?_
        have k13 := j_sub hY ho 15 (f := 100) rfl (by decide) (by decide) (by decide)
        refine lv_iload_n hx hb dX10_copy_41 rfl (lv_at hl 0 rfl) ?_
        refine lv_aload_n hx hb dX10_copy_42 rfl (lv_at hl 1 rfl) ?_
        refine jg_10_1 jc jw ho wd_6_60 dX10_copy_43 ?_
        have k14 := j_sub hY ho 1 (f := 100) rfl (by decide) (by decide) (by decide)
        refine lv_bipush (v := 24) hx hb dX10_copy_46 (by decide) ?_
        refine lv_iload_n hx hb dX10_copy_48 rfl (lv_at hl 2 rfl) ?_
        refine lv_imul hx hb dX10_copy_49 ?_
        refine lv_iload_n hx hb dX10_copy_50 rfl (lv_at hl 0 rfl) ?_
        refine lv_iadd hx hb dX10_copy_51 ?_
        rcases Classical.em (j_g (((24 : Int32) * p1) + vv8) (j_ln Y (j_rf Y o 1))) with g15 | g15
        case inr => rw [if_neg g15] at hE; exact absurd hE (hG7 _)
        rw [if_pos g15] at hE
        refine jr_iald jc jw k14 (j_g_in g15) dX10_copy_52 ?_
        rcases Classical.em (j_g vv8 (j_ln Y (j_rf Y o 15))) with g16 | g16
        case inr => rw [if_neg g16] at hE; exact absurd hE (hG7 _)
        rw [if_pos g16] at hE
        refine jr_iast jc jw k13 (j_g_in g16) dX10_copy_53 (fun H locs jw => ?_)
        obtain ⟨mm17, emm17, hE⟩ := j_lv hE
        rw [← emm17] at jw
        try dsimp only at hE
        obtain ⟨vv18, evv18, hE⟩ := j_lv hE
        try dsimp only at hE
        refine lv_iinc (v := vv18) (lv' := [(3, .int vv18), (0, .ref (ad o)), (1, .int p1), (2, .int p2)]) hx hb dX10_copy_54 hl (k := 0) rfl (by rw [evv18]; rfl) (by decide) rfl (fun ls hl => ?_)
        refine lv_goto (tgt := 27) hx hb dX10_copy_57 (by decide) ?_
        exact ih vv18 mm17 H locs ls hE jw (lv_sub hl [0, 1, 2, 3] rfl)
  exact LP7 j_fuel (0 : Int32) xx6 H locs ls hE jw (lv_sub hl [0, 1, 2, 3] rfl)
def lp_X10_isSame_1 (Y : JY) (p1 : Int32) (o : Nat) (M : JM) (p2 : Int32) (n : Nat) (vv14 : Int32) (vv15 : Int32) : Option (Int32) := match n with
  | 0 => none
  | n + 1 => if j_g p1 (j_ln Y (j_rf Y o 2)) then (if (M (j_rf Y o 2) p1.toNatClampNeg) ≤ vv15 ∨ vv14 = 0 then (some vv14) else (if j_g (((24 : Int32) * p1) + vv15) (j_ln Y (j_rf Y o 1)) then (if j_g (((24 : Int32) * p2) + vv15) (j_ln Y (j_rf Y o 1)) then (lt_ (if (M (j_rf Y o 1) (((24 : Int32) * p1) + vv15).toNatClampNeg) = (M (j_rf Y o 1) (((24 : Int32) * p2) + vv15).toNatClampNeg) then ((1 : Int32)) else ((0 : Int32))) fun xx26 => lt_ (vv15 + (1 : Int32)) fun vv25 => lp_X10_isSame_1 Y p1 o M p2 n xx26 vv25) else none) else none)) else none
def s_X10_isSame (Y : JY) (M : JM) (o : Nat) (p1 : Int32) (p2 : Int32) : Option (Int32 × JM) := if (s_X10_isRegister Y M p1) = 0 ∨ (s_X10_isRegister Y M p2) = 0 then (lt_ (s_X10_not Y M o (1 : Int32)) fun xx5 => if xx5.1 = 0 ∨ xx5.1 = 1 then (some (xx5.1, xx5.2)) else none) else (if j_g p1 (j_ln Y (j_rf Y o 2)) then (if j_g p2 (j_ln Y (j_rf Y o 2)) then (lt_ (if (M (j_rf Y o 2) p1.toNatClampNeg) = (M (j_rf Y o 2) p2.toNatClampNeg) then ((1 : Int32)) else ((0 : Int32))) fun xx33 => (lp_X10_isSame_1 Y p1 o M p2 j_fuel xx33 (0 : Int32)).bind fun xx32 => if xx32 = 0 ∨ xx32 = 1 then (lt_ (s_X10_so Y M o xx32) fun xx30 => if xx30.1 = 0 ∨ xx30.1 = 1 then (some (xx30.1, xx30.2)) else none) else none) else none) else none)
set_option maxRecDepth 100000 in
set_option maxHeartbeats 4000000 in
theorem c_X10_isSame {D : va_G} {Y : JY} {ty : Nat → ClassId} {ad : Nat → Nat} {sz : Nat} {l : Launch} {M : JM} (hY : j_ok Y) {o : Nat} {p1 : Int32} {p2 : Int32} (ho : j_kd Y o = 10) {r : Int32 × JM} (hE : s_X10_isSame Y M o p1 p2 = some r) : JMz D Y ty ad sz l yX10_isSame cX10_isSame 5 2 42 [.ref (ad o), .int p1, .int p2] M r.1 r.2 := by
  refine j_ofZ hY (by decide +kernel) (Nat.le_of_ble_eq_true rfl) (fun p e s m below meth c args R Q A hRf hRl hA jc jw kr ls hl => ?_)
  have hx := jc.1
  have hb := jc.2.1
  have hl : lv_has ls 5 [(0, .ref (ad o)), (1, .int p1), (2, .int p2)] := hl
  unfold s_X10_isSame at hE
  obtain ⟨G0, eG0, hG0, hE⟩ := j_F0o hE
  refine lv_iload_n hx hb dX10_isSame_0 rfl (lv_at hl 1 rfl) ?_
  refine jc_sz [.int p1] [] jc jw hA (c_X10_isRegister hY  (M := M) rfl) sd_X10_126 rfl hl.1 (j_hR hRf hRl rfl rfl) (Nat.le_of_ble_eq_true rfl) dX10_isSame_1 (fun H locs jw hz => ?_)
  have z_1 := hz
  have B34 : ∀ (H : Heap) (locs : List Loc), JW D Y ty ad A s.heap M H locs → ((s_X10_isRegister Y M p1) = 0 ∨ (s_X10_isRegister Y M p2) = 0) → W p l e R s m args below meth c H locs 0 0 Q (F0 m 14 ls []) := by
    intro H locs jw hcc
    rw [if_pos hcc] at hE
    refine lv_aload_n hx hb dX10_isSame_14 rfl (lv_at hl 0 rfl) ?_
    refine lv_iconst (v := 1) hx hb dX10_isSame_15 (by decide) ?_
    obtain ⟨xx5, exx5, hE⟩ := j_lv hE
    try dsimp only at hE
    refine jc_vz [.int (1 : Int32)] [] jc jw hA ho (by decide) rfl (c_X10_not hY ho (M := M) exx5.symm) sd_X10_145 rfl hl.1 (j_hR hRf hRl rfl rfl) (Nat.le_of_ble_eq_true rfl) dX10_isSame_16 (fun H locs jw hz => ?_)
    rcases Classical.em (xx5.1 = 0 ∨ xx5.1 = 1) with g6 | g6
    case inr => rw [if_neg g6] at hE; exact absurd hE (hG0 _)
    rw [if_pos g6] at hE
    exact kr _ _ _ _ _ _ (congrArg Prod.fst (Option.some.inj (j_ret eG0 hE))) (congrArg Prod.snd (Option.some.inj (j_ret eG0 hE))) g6 jw dX10_isSame_19
  refine lv_if_eq (tgt := 14) hx hb dX10_isSame_4 (by decide) (fun c2 => B34 _ _ jw (Or.inl c2)) (fun c2 => ?_)
  refine lv_iload_n hx hb dX10_isSame_7 rfl (lv_at hl 2 rfl) ?_
  refine jc_sz [.int p2] [] jc jw hA (c_X10_isRegister hY  (M := M) rfl) sd_X10_126 rfl hl.1 (j_hR hRf hRl rfl rfl) (Nat.le_of_ble_eq_true rfl) dX10_isSame_8 (fun H locs jw hz => ?_)
  have z_3 := hz
  refine lv_if_ne (tgt := 20) hx hb dX10_isSame_11 (by decide) (fun c4 => ?_) (fun c4 => B34 _ _ jw (Or.inr c4))
  rw [if_neg (fun hq => hq.elim (fun hq => (j_abs c2 hq)) (fun hq => (j_abs c4 hq)))] at hE
  refine lv_aload_n hx hb dX10_isSame_20 rfl (lv_at hl 0 rfl) ?_
  refine jg_10_2 jc jw ho wd_6_61 dX10_isSame_21 ?_
  have k7 := j_sub hY ho 2 (f := 100) rfl (by decide) (by decide) (by decide)
  refine lv_iload_n hx hb dX10_isSame_24 rfl (lv_at hl 1 rfl) ?_
  rcases Classical.em (j_g p1 (j_ln Y (j_rf Y o 2))) with g8 | g8
  case inr => rw [if_neg g8] at hE; exact absurd hE (hG0 _)
  rw [if_pos g8] at hE
  refine jr_iald jc jw k7 (j_g_in g8) dX10_isSame_25 ?_
  refine lv_aload_n hx hb dX10_isSame_26 rfl (lv_at hl 0 rfl) ?_
  refine jg_10_2 jc jw ho wd_6_61 dX10_isSame_27 ?_
  refine lv_iload_n hx hb dX10_isSame_30 rfl (lv_at hl 2 rfl) ?_
  rcases Classical.em (j_g p2 (j_ln Y (j_rf Y o 2))) with g9 | g9
  case inr => rw [if_neg g9] at hE; exact absurd hE (hG0 _)
  rw [if_pos g9] at hE
  refine jr_iald jc jw k7 (j_g_in g9) dX10_isSame_31 ?_
  obtain ⟨G11, eG11, hE⟩ := j_ctxL hE
  have J11 : ∀ (vv12 : Int32)  (H : Heap) (locs : List Loc) (ls : Array Slot), G11 (vv12) = some r → JW D Y ty ad A s.heap M H locs → lv_has ls 5 [(0, .ref (ad o)), (1, .int p1), (2, .int p2)] → W p l e R s m args below meth c H locs 0 0 Q (F0 m 40 ls [.int vv12]) := by
    intro vv12  H locs ls hE jw hl
    replace hE := j_popL eG11 hE
    try dsimp only at hE
    refine lv_istore_n (lv' := [(3, .int vv12), (0, .ref (ad o)), (1, .int p1), (2, .int p2)]) hx hb dX10_isSame_40 rfl hl (by decide) rfl (fun ls hl => ?_)
    refine lv_iconst (v := 0) hx hb dX10_isSame_41 (by decide) ?_
    refine lv_istore (lv' := [(4, .int (0 : Int32)), (3, .int vv12), (0, .ref (ad o)), (1, .int p1), (2, .int p2)]) hx hb dX10_isSame_42 hl (by decide) rfl (fun ls hl => ?_)
    obtain ⟨G13, eG13, hG13, hE⟩ := j_ctxB hG0 hE
    have E13_98 : ∀ (vv28 : Int32)  (H : Heap) (locs : List Loc) (ls : Array Slot), G13 (some vv28) = some r → JW D Y ty ad A s.heap M H locs → lv_has ls 5 [(3, .int vv28), (0, .ref (ad o))] → W p l e R s m args below meth c H locs 0 0 Q (F0 m 98 ls []) := by
      intro vv28  H locs ls hE jw hl
      replace hE := j_popB eG13 hE
      try dsimp only at hE
      refine lv_aload_n hx hb dX10_isSame_98 rfl (lv_at hl 1 rfl) ?_
      refine lv_iload_n hx hb dX10_isSame_99 rfl (lv_at hl 0 rfl) ?_
      rcases Classical.em (vv28 = 0 ∨ vv28 = 1) with g29 | g29
      case inr => rw [if_neg g29] at hE; exact absurd hE (hG0 _)
      rw [if_pos g29] at hE
      obtain ⟨xx30, exx30, hE⟩ := j_lv hE
      try dsimp only at hE
      refine jc_vz [.int vv28] [] jc jw hA ho (by decide) rfl (c_X10_so hY ho g29 (M := M) exx30.symm) sd_X10_148 rfl hl.1 (j_hR hRf hRl rfl rfl) (Nat.le_of_ble_eq_true rfl) dX10_isSame_100 (fun H locs jw hz => ?_)
      rcases Classical.em (xx30.1 = 0 ∨ xx30.1 = 1) with g31 | g31
      case inr => rw [if_neg g31] at hE; exact absurd hE (hG0 _)
      rw [if_pos g31] at hE
      exact kr _ _ _ _ _ _ (congrArg Prod.fst (Option.some.inj (j_ret eG0 hE))) (congrArg Prod.snd (Option.some.inj (j_ret eG0 hE))) g31 jw dX10_isSame_103
    have LP13 : ∀ (n : Nat) (vv14 : Int32) (vv15 : Int32) (H : Heap) (locs : List Loc) (ls : Array Slot), G13 (lp_X10_isSame_1 Y p1 o M p2 n vv14 vv15) = some r → JW D Y ty ad A s.heap M H locs → lv_has ls 5 [(4, .int vv15), (3, .int vv14), (0, .ref (ad o)), (1, .int p1), (2, .int p2)] → W p l e R s m args below meth c H locs 0 0 Q (F0 m 44 ls []) := by
      intro n
      induction n with
      | zero => intro vv14 vv15 H locs ls hE jw hl; exact absurd hE (hG13 _)
      | succ n ih =>
        intro vv14 vv15 H locs ls hE jw hl
        rw [lp_X10_isSame_1] at hE
        refine lv_iload hx hb dX10_isSame_44 (lv_at hl 0 rfl) ?_
        refine lv_aload_n hx hb dX10_isSame_46 rfl (lv_at hl 2 rfl) ?_
        refine jg_10_2 jc jw ho wd_6_61 dX10_isSame_47 ?_
        refine lv_iload_n hx hb dX10_isSame_50 rfl (lv_at hl 3 rfl) ?_
        rcases Classical.em (j_g p1 (j_ln Y (j_rf Y o 2))) with g16 | g16
        case inr => rw [if_neg g16] at hE; exact absurd hE (hG13 _)
        rw [if_pos g16] at hE
        refine jr_iald jc jw k7 (j_g_in g16) dX10_isSame_51 ?_
        have B27 : ∀ (H : Heap) (locs : List Loc), JW D Y ty ad A s.heap M H locs → ((M (j_rf Y o 2) p1.toNatClampNeg) ≤ vv15 ∨ vv14 = 0) → W p l e R s m args below meth c H locs 0 0 Q (F0 m 98 ls []) := by
          intro H locs jw hcc
          rw [if_pos hcc] at hE
          exact E13_98 vv14  H locs ls hE jw (lv_sub hl [1, 2] rfl)
        refine lv_icmp_ge (tgt := 98) hx hb dX10_isSame_52 (by decide) (fun c17 => B27 _ _ jw (Or.inl c17)) (fun c17 => ?_)
        refine lv_iload_n hx hb dX10_isSame_55 rfl (lv_at hl 1 rfl) ?_
        refine lv_if_eq (tgt := 98) hx hb dX10_isSame_56 (by decide) (fun c18 => B27 _ _ jw (Or.inr c18)) (fun c18 => ?_)
        rw [if_neg (fun hq => hq.elim (fun hq => (j_abs c17 hq)) (fun hq => (j_abs c18 hq)))] at hE
        refine lv_aload_n hx hb dX10_isSame_59 rfl (lv_at hl 2 rfl) ?_
        refine jg_10_1 jc jw ho wd_6_60 dX10_isSame_60 ?_
        have k19 := j_sub hY ho 1 (f := 100) rfl (by decide) (by decide) (by decide)
        refine lv_bipush (v := 24) hx hb dX10_isSame_63 (by decide) ?_
        refine lv_iload_n hx hb dX10_isSame_65 rfl (lv_at hl 3 rfl) ?_
        refine lv_imul hx hb dX10_isSame_66 ?_
        refine lv_iload hx hb dX10_isSame_67 (lv_at hl 0 rfl) ?_
        refine lv_iadd hx hb dX10_isSame_69 ?_
        rcases Classical.em (j_g (((24 : Int32) * p1) + vv15) (j_ln Y (j_rf Y o 1))) with g20 | g20
        case inr => rw [if_neg g20] at hE; exact absurd hE (hG13 _)
        rw [if_pos g20] at hE
        refine jr_iald jc jw k19 (j_g_in g20) dX10_isSame_70 ?_
        refine lv_aload_n hx hb dX10_isSame_71 rfl (lv_at hl 2 rfl) ?_
        refine jg_10_1 jc jw ho wd_6_60 dX10_isSame_72 ?_
        refine lv_bipush (v := 24) hx hb dX10_isSame_75 (by decide) ?_
        refine lv_iload_n hx hb dX10_isSame_77 rfl (lv_at hl 4 rfl) ?_
        refine lv_imul hx hb dX10_isSame_78 ?_
        refine lv_iload hx hb dX10_isSame_79 (lv_at hl 0 rfl) ?_
        refine lv_iadd hx hb dX10_isSame_81 ?_
        rcases Classical.em (j_g (((24 : Int32) * p2) + vv15) (j_ln Y (j_rf Y o 1))) with g21 | g21
        case inr => rw [if_neg g21] at hE; exact absurd hE (hG13 _)
        rw [if_pos g21] at hE
        refine jr_iald jc jw k19 (j_g_in g21) dX10_isSame_82 ?_
        obtain ⟨G23, eG23, hE⟩ := j_ctxL hE
        have J23 : ∀ (vv24 : Int32)  (H : Heap) (locs : List Loc) (ls : Array Slot), G23 (vv24) = some r → JW D Y ty ad A s.heap M H locs → lv_has ls 5 [(4, .int vv15), (0, .ref (ad o)), (1, .int p1), (2, .int p2)] → W p l e R s m args below meth c H locs 0 0 Q (F0 m 91 ls [.int vv24]) := by
          intro vv24  H locs ls hE jw hl
          replace hE := j_popL eG23 hE
          try dsimp only at hE
          refine lv_istore_n (lv' := [(3, .int vv24), (4, .int vv15), (0, .ref (ad o)), (1, .int p1), (2, .int p2)]) hx hb dX10_isSame_91 rfl hl (by decide) rfl (fun ls hl => ?_)
          obtain ⟨vv25, evv25, hE⟩ := j_lv hE
          try dsimp only at hE
          refine lv_iinc (v := vv25) (lv' := [(4, .int vv25), (3, .int vv24), (0, .ref (ad o)), (1, .int p1), (2, .int p2)]) hx hb dX10_isSame_92 hl (k := 1) rfl (by rw [evv25]; rfl) (by decide) rfl (fun ls hl => ?_)
          refine lv_goto (tgt := 44) hx hb dX10_isSame_95 (by decide) ?_
          exact ih vv24 vv25 H locs ls hE jw (lv_sub hl [0, 1, 2, 3, 4] rfl)
        refine lv_icmp_ne (tgt := 90) hx hb dX10_isSame_83 (by decide) (fun c22 => ?_) (fun c22 => ?_)
        · rw [if_neg c22] at hE
          refine lv_iconst (v := 0) hx hb dX10_isSame_90 (by decide) ?_
          exact J23 (0 : Int32)  H locs ls hE jw (lv_sub hl [0, 2, 3, 4] rfl)
        · rw [if_pos c22] at hE
          refine lv_iconst (v := 1) hx hb dX10_isSame_86 (by decide) ?_
          refine lv_goto (tgt := 91) hx hb dX10_isSame_87 (by decide) ?_
          exact J23 (1 : Int32)  H locs ls hE jw (lv_sub hl [0, 2, 3, 4] rfl)
    exact LP13 j_fuel vv12 (0 : Int32) H locs ls hE jw (lv_sub hl [0, 1, 2, 3, 4] rfl)
  refine lv_icmp_ne (tgt := 39) hx hb dX10_isSame_32 (by decide) (fun c10 => ?_) (fun c10 => ?_)
  · rw [if_neg c10] at hE
    refine lv_iconst (v := 0) hx hb dX10_isSame_39 (by decide) ?_
    exact J11 (0 : Int32)  H locs ls hE jw (lv_sub hl [0, 1, 2] rfl)
  · rw [if_pos c10] at hE
    refine lv_iconst (v := 1) hx hb dX10_isSame_35 (by decide) ?_
    refine lv_goto (tgt := 40) hx hb dX10_isSame_36 (by decide) ?_
    exact J11 (1 : Int32)  H locs ls hE jw (lv_sub hl [0, 1, 2] rfl)
def s_X10_here (Y : JY) (M : JM) (o : Nat) : Option (Int32) := if (M o 6) ≤ (M o 16) then (some (0 : Int32)) else (if j_g (M o 16) (j_ln Y (j_rf Y o 5)) then (some (M (j_rf Y o 5) (M o 16).toNatClampNeg)) else none)
set_option maxRecDepth 100000 in
set_option maxHeartbeats 4000000 in
theorem c_X10_here {D : va_G} {Y : JY} {ty : Nat → ClassId} {ad : Nat → Nat} {sz : Nat} {l : Launch} {M : JM} (hY : j_ok Y) {o : Nat} (ho : j_kd Y o = 10) {r : Int32} (hE : s_X10_here Y M o = some r) : JMi D Y ty ad sz l yX10_here cX10_here 1 (some .int) 0 0 [.ref (ad o)] M r M := by
  refine j_ofI hY (by decide +kernel) (Nat.le_of_ble_eq_true rfl) (fun p e s m below meth c args R Q A hRf hRl hA jc jw kr ls hl => ?_)
  have hx := jc.1
  have hb := jc.2.1
  have hl : lv_has ls 1 [(0, .ref (ad o))] := hl
  unfold s_X10_here at hE
  obtain ⟨G0, eG0, hG0, hE⟩ := j_F0o hE
  refine lv_aload_n hx hb dX10_here_0 rfl (lv_at hl 0 rfl) ?_
  refine jg_10_16 jc jw ho wd_6_75 dX10_here_1 ?_
  refine lv_aload_n hx hb dX10_here_4 rfl (lv_at hl 0 rfl) ?_
  refine jg_10_6 jc jw ho wd_6_65 dX10_here_5 ?_
  refine lv_icmp_ge (tgt := 23) hx hb dX10_here_8 (by decide) (fun c1 => ?_) (fun c1 => ?_)
  · rw [if_pos c1] at hE
    refine lv_iconst (v := 0) hx hb dX10_here_23 (by decide) ?_
    exact kr _ _ _ _ _ _ (Option.some.inj (j_ret eG0 hE)) rfl jw dX10_here_24
  · rw [if_neg c1] at hE
    refine lv_aload_n hx hb dX10_here_11 rfl (lv_at hl 0 rfl) ?_
    refine jg_10_5 jc jw ho wd_6_64 dX10_here_12 ?_
    have k2 := j_sub hY ho 5 (f := 102) rfl (by decide) (by decide) (by decide)
    refine lv_aload_n hx hb dX10_here_15 rfl (lv_at hl 0 rfl) ?_
    refine jg_10_16 jc jw ho wd_6_75 dX10_here_16 ?_
    rcases Classical.em (j_g (M o 16) (j_ln Y (j_rf Y o 5))) with g3 | g3
    case inr => rw [if_neg g3] at hE; exact absurd hE (hG0 _)
    rw [if_pos g3] at hE
    refine jr_cald jc jw k2 (j_g_in g3) dX10_here_19 ?_
    refine lv_goto (tgt := 24) hx hb dX10_here_20 (by decide) ?_
    exact kr _ _ _ _ _ _ (Option.some.inj (j_ret eG0 hE)) rfl jw dX10_here_24
def s_X10_comes (Y : JY) (M : JM) (o : Nat) (p1 : Int32) : Option (JM) := if (1999 : Int32) ≤ (M o 18) then (some M) else (if j_g (M o 18) (j_ln Y (j_rf Y o 15)) then (lt_ (j_up M (j_rf Y o 15) (M o 18).toNatClampNeg p1) fun mm4 => lt_ (j_up mm4 o 18 ((mm4 o 18) + (1 : Int32))) fun mm5 => some mm5) else none)
set_option maxRecDepth 100000 in
set_option maxHeartbeats 4000000 in
theorem c_X10_comes {D : va_G} {Y : JY} {ty : Nat → ClassId} {ad : Nat → Nat} {sz : Nat} {l : Launch} {M : JM} (hY : j_ok Y) {o : Nat} {p1 : Int32} (ho : j_kd Y o = 10) {r : JM} (hE : s_X10_comes Y M o p1 = some r) : JMv D Y ty ad sz l yX10_comes cX10_comes 2 0 0 [.ref (ad o), .int p1] M r := by
  refine j_ofV hY (by decide +kernel) (Nat.le_of_ble_eq_true rfl) (fun p e s m below meth c args R Q A hRf hRl hA jc jw kr ls hl => ?_)
  have hx := jc.1
  have hb := jc.2.1
  have hl : lv_has ls 2 [(0, .ref (ad o)), (1, .int p1)] := hl
  unfold s_X10_comes at hE
  obtain ⟨G0, eG0, hG0, hE⟩ := j_F0o hE
  refine lv_aload_n hx hb dX10_comes_0 rfl (lv_at hl 0 rfl) ?_
  refine jg_10_18 jc jw ho wd_6_77 dX10_comes_1 ?_
  refine lv_sipush (v := 1999) hx hb dX10_comes_4 (by decide) ?_
  refine lv_icmp_ge (tgt := 30) hx hb dX10_comes_7 (by decide) (fun c1 => ?_) (fun c1 => ?_)
  · rw [if_pos c1] at hE
    exact kr _ _ _ _ _ (Option.some.inj (j_ret eG0 hE)) jw dX10_comes_30
  · rw [if_neg c1] at hE
    refine lv_aload_n hx hb dX10_comes_10 rfl (lv_at hl 0 rfl) ?_
    refine jg_10_15 jc jw ho wd_6_74 dX10_comes_11 ?_
    have k2 := j_sub hY ho 15 (f := 100) rfl (by decide) (by decide) (by decide)
    refine lv_aload_n hx hb dX10_comes_14 rfl (lv_at hl 0 rfl) ?_
    refine jg_10_18 jc jw ho wd_6_77 dX10_comes_15 ?_
    refine lv_iload_n hx hb dX10_comes_18 rfl (lv_at hl 1 rfl) ?_
    rcases Classical.em (j_g (M o 18) (j_ln Y (j_rf Y o 15))) with g3 | g3
    case inr => rw [if_neg g3] at hE; exact absurd hE (hG0 _)
    rw [if_pos g3] at hE
    refine jr_iast jc jw k2 (j_g_in g3) dX10_comes_19 (fun H locs jw => ?_)
    obtain ⟨mm4, emm4, hE⟩ := j_lv hE
    rw [← emm4] at jw
    try dsimp only at hE
    refine lv_aload_n hx hb dX10_comes_20 rfl (lv_at hl 0 rfl) ?_
    refine lv_dup hx hb dX10_comes_21 rfl ?_
    refine jg_10_18 jc jw ho wd_6_77 dX10_comes_22 ?_
    refine lv_iconst (v := 1) hx hb dX10_comes_25 (by decide) ?_
    refine lv_iadd hx hb dX10_comes_26 ?_
    refine js_10_18 jc jw ho wd_6_77 dX10_comes_27 (fun H locs jw => ?_)
    obtain ⟨mm5, emm5, hE⟩ := j_lv hE
    rw [← emm5] at jw
    try dsimp only at hE
    exact kr _ _ _ _ _ (Option.some.inj (j_ret eG0 hE)) jw dX10_comes_30
def lp_X10_repeats_2 (Y : JY) (vv4 : Int32) (o : Nat) (n : Nat) (vv11 : Int32) (mm12 : JM) : Option (JM) := match n with
  | 0 => none
  | n + 1 => if vv4 ≤ vv11 then (some mm12) else (if j_g vv11 (j_ln Y (j_rf Y o 15)) then ((s_X10_comes Y mm12 o (mm12 (j_rf Y o 15) vv11.toNatClampNeg)).bind fun xx16 => lt_ (vv11 + (1 : Int32)) fun vv17 => lp_X10_repeats_2 Y vv4 o n vv17 xx16) else none)
def lp_X10_repeats_1 (Y : JY) (o : Nat) (vv4 : Int32) (p1 : Int32) (n : Nat) (vv6 : Int32) (mm7 : JM) : Option (JM) := match n with
  | 0 => none
  | n + 1 => (s_X10_here Y mm7 o).bind fun xx8 => if (xx8 - (48 : Int32)) ≤ vv6 then (some mm7) else ((lp_X10_repeats_2 Y vv4 o j_fuel p1 mm7).bind fun xx20 => lt_ (vv6 + (1 : Int32)) fun vv19 => lp_X10_repeats_1 Y o vv4 p1 n vv19 xx20)
def s_X10_repeats (Y : JY) (M : JM) (o : Nat) (p1 : Int32) : Option (JM) := (s_X10_here Y M o).bind fun xx1 => if (s_X10_in Y M xx1 (50 : Int32) (57 : Int32)) = 0 then (some M) else (lt_ (M o 18) fun vv4 => (lp_X10_repeats_1 Y o vv4 p1 j_fuel (1 : Int32) M).bind fun xx23 => lt_ (j_up xx23 o 16 ((xx23 o 16) + (1 : Int32))) fun mm22 => some mm22)
set_option maxRecDepth 100000 in
set_option maxHeartbeats 4000000 in
theorem c_X10_repeats {D : va_G} {Y : JY} {ty : Nat → ClassId} {ad : Nat → Nat} {sz : Nat} {l : Launch} {M : JM} (hY : j_ok Y) {o : Nat} {p1 : Int32} (ho : j_kd Y o = 10) {r : JM} (hE : s_X10_repeats Y M o p1 = some r) : JMv D Y ty ad sz l yX10_repeats cX10_repeats 5 1 22 [.ref (ad o), .int p1] M r := by
  refine j_ofV hY (by decide +kernel) (Nat.le_of_ble_eq_true rfl) (fun p e s m below meth c args R Q A hRf hRl hA jc jw kr ls hl => ?_)
  have hx := jc.1
  have hb := jc.2.1
  have hl : lv_has ls 5 [(0, .ref (ad o)), (1, .int p1)] := hl
  unfold s_X10_repeats at hE
  obtain ⟨G0, eG0, hG0, hE⟩ := j_F0o hE
  refine lv_aload_n hx hb dX10_repeats_0 rfl (lv_at hl 0 rfl) ?_
  obtain ⟨xx1, exx1, hE⟩ := j_bd hG0 hE
  try dsimp only at hE
  refine jc_vi [] [] jc jw hA ho (by decide) rfl (c_X10_here hY ho (M := M) exx1) sd_X10_161 rfl hl.1 (j_hR hRf hRl rfl rfl) (Nat.le_of_ble_eq_true rfl) dX10_repeats_1 (fun H locs jw => ?_)
  refine lv_bipush (v := 50) hx hb dX10_repeats_4 (by decide) ?_
  refine lv_bipush (v := 57) hx hb dX10_repeats_6 (by decide) ?_
  refine jc_sz [.int xx1, .int (50 : Int32), .int (57 : Int32)] [] jc jw hA (c_X10_in hY  (M := M) rfl) sd_X10_119 rfl hl.1 (j_hR hRf hRl rfl rfl) (Nat.le_of_ble_eq_true rfl) dX10_repeats_8 (fun H locs jw hz => ?_)
  have z_2 := hz
  refine lv_if_eq (tgt := 74) hx hb dX10_repeats_11 (by decide) (fun c3 => ?_) (fun c3 => ?_)
  · rw [if_pos c3] at hE
    exact kr _ _ _ _ _ (Option.some.inj (j_ret eG0 hE)) jw dX10_repeats_74
  · rw [if_neg c3] at hE
    refine lv_aload_n hx hb dX10_repeats_14 rfl (lv_at hl 0 rfl) ?_
    refine jg_10_18 jc jw ho wd_6_77 dX10_repeats_15 ?_
    refine lv_topi (fun vv4 evv4 => ?_)
    replace hE := j_lu hE evv4
    try dsimp only at hE
    refine lv_istore_n (lv' := [(2, .int vv4), (0, .ref (ad o)), (1, .int p1)]) hx hb dX10_repeats_18 rfl hl (by decide) rfl (fun ls hl => ?_)
    refine lv_iconst (v := 1) hx hb dX10_repeats_19 (by decide) ?_
    refine lv_istore_n (lv' := [(3, .int (1 : Int32)), (2, .int vv4), (0, .ref (ad o)), (1, .int p1)]) hx hb dX10_repeats_20 rfl hl (by decide) rfl (fun ls hl => ?_)
    obtain ⟨G5, eG5, hG5, hE⟩ := j_ctxB hG0 hE
    have E5_64 : ∀ (mm21 : JM)  (H : Heap) (locs : List Loc) (ls : Array Slot), G5 (some mm21) = some r → JW D Y ty ad A s.heap mm21 H locs → lv_has ls 5 [(0, .ref (ad o))] → W p l e R s m args below meth c H locs 0 0 Q (F0 m 64 ls []) := by
      intro mm21  H locs ls hE jw hl
      replace hE := j_popB eG5 hE
      try dsimp only at hE
      refine lv_aload_n hx hb dX10_repeats_64 rfl (lv_at hl 0 rfl) ?_
      refine lv_dup hx hb dX10_repeats_65 rfl ?_
      refine jg_10_16 jc jw ho wd_6_75 dX10_repeats_66 ?_
      refine lv_iconst (v := 1) hx hb dX10_repeats_69 (by decide) ?_
      refine lv_iadd hx hb dX10_repeats_70 ?_
      refine js_10_16 jc jw ho wd_6_75 dX10_repeats_71 (fun H locs jw => ?_)
      obtain ⟨mm22, emm22, hE⟩ := j_lv hE
      rw [← emm22] at jw
      try dsimp only at hE
      exact kr _ _ _ _ _ (Option.some.inj (j_ret eG0 hE)) jw dX10_repeats_74
    have LP5 : ∀ (n : Nat) (vv6 : Int32) (mm7 : JM) (H : Heap) (locs : List Loc) (ls : Array Slot), G5 (lp_X10_repeats_1 Y o vv4 p1 n vv6 mm7) = some r → JW D Y ty ad A s.heap mm7 H locs → lv_has ls 5 [(3, .int vv6), (2, .int vv4), (0, .ref (ad o)), (1, .int p1)] → W p l e R s m args below meth c H locs 0 0 Q (F0 m 21 ls []) := by
      intro n
      induction n with
      | zero => intro vv6 mm7 H locs ls hE jw hl; exact absurd hE (hG5 _)
      | succ n ih =>
        intro vv6 mm7 H locs ls hE jw hl
        rw [lp_X10_repeats_1] at hE
        refine lv_iload_n hx hb dX10_repeats_21 rfl (lv_at hl 0 rfl) ?_
        refine lv_aload_n hx hb dX10_repeats_22 rfl (lv_at hl 2 rfl) ?_
        obtain ⟨xx8, exx8, hE⟩ := j_bd hG5 hE
        try dsimp only at hE
        refine jc_vi [] [.int vv6] jc jw hA ho (by decide) rfl (c_X10_here hY ho (M := mm7) exx8) sd_X10_161 rfl hl.1 (j_hR hRf hRl rfl rfl) (Nat.le_of_ble_eq_true rfl) dX10_repeats_23 (fun H locs jw => ?_)
        refine lv_bipush (v := 48) hx hb dX10_repeats_26 (by decide) ?_
        refine lv_isub hx hb dX10_repeats_28 ?_
        refine lv_icmp_ge (tgt := 64) hx hb dX10_repeats_29 (by decide) (fun c9 => ?_) (fun c9 => ?_)
        · rw [if_pos c9] at hE
          exact E5_64 mm7  H locs ls hE jw (lv_sub hl [2] rfl)
        · rw [if_neg c9] at hE
          refine lv_iload_n hx hb dX10_repeats_32 rfl (lv_at hl 3 rfl) ?_
          refine lv_istore (lv' := [(4, .int p1), (3, .int vv6), (2, .int vv4), (0, .ref (ad o)), (1, .int p1)]) hx hb dX10_repeats_33 hl (by decide) rfl (fun ls hl => ?_)
          obtain ⟨G10, eG10, hG10, hE⟩ := j_ctxB hG5 hE
          have E10_58 : ∀ (mm18 : JM)  (H : Heap) (locs : List Loc) (ls : Array Slot), G10 (some mm18) = some r → JW D Y ty ad A s.heap mm18 H locs → lv_has ls 5 [(3, .int vv6), (2, .int vv4), (0, .ref (ad o)), (1, .int p1)] → W p l e R s m args below meth c H locs 0 0 Q (F0 m 58 ls []) := by
            intro mm18  H locs ls hE jw hl
            replace hE := j_popB eG10 hE
            try dsimp only at hE
            obtain ⟨vv19, evv19, hE⟩ := j_lv hE
            try dsimp only at hE
            refine lv_iinc (v := vv19) (lv' := [(3, .int vv19), (2, .int vv4), (0, .ref (ad o)), (1, .int p1)]) hx hb dX10_repeats_58 hl (k := 0) rfl (by rw [evv19]; rfl) (by decide) rfl (fun ls hl => ?_)
            refine lv_goto (tgt := 21) hx hb dX10_repeats_61 (by decide) ?_
            exact ih vv19 mm18 H locs ls hE jw (lv_sub hl [0, 1, 2, 3] rfl)
          have LP10 : ∀ (n : Nat) (vv11 : Int32) (mm12 : JM) (H : Heap) (locs : List Loc) (ls : Array Slot), G10 (lp_X10_repeats_2 Y vv4 o n vv11 mm12) = some r → JW D Y ty ad A s.heap mm12 H locs → lv_has ls 5 [(4, .int vv11), (3, .int vv6), (2, .int vv4), (0, .ref (ad o)), (1, .int p1)] → W p l e R s m args below meth c H locs 0 0 Q (F0 m 35 ls []) := by
            intro n
            induction n with
            | zero => intro vv11 mm12 H locs ls hE jw hl; exact absurd hE (hG10 _)
            | succ n ih =>
              intro vv11 mm12 H locs ls hE jw hl
              rw [lp_X10_repeats_2] at hE
              refine lv_iload hx hb dX10_repeats_35 (lv_at hl 0 rfl) ?_
              refine lv_iload_n hx hb dX10_repeats_37 rfl (lv_at hl 2 rfl) ?_
              refine lv_icmp_ge (tgt := 58) hx hb dX10_repeats_38 (by decide) (fun c13 => ?_) (fun c13 => ?_)
              · rw [if_pos c13] at hE
                exact E10_58 mm12  H locs ls hE jw (lv_sub hl [1, 2, 3, 4] rfl)
              · rw [if_neg c13] at hE
                refine lv_aload_n hx hb dX10_repeats_41 rfl (lv_at hl 3 rfl) ?_
                refine lv_aload_n hx hb dX10_repeats_42 rfl (lv_at hl 3 rfl) ?_
                refine jg_10_15 jc jw ho wd_6_74 dX10_repeats_43 ?_
                have k14 := j_sub hY ho 15 (f := 100) rfl (by decide) (by decide) (by decide)
                refine lv_iload hx hb dX10_repeats_46 (lv_at hl 0 rfl) ?_
                rcases Classical.em (j_g vv11 (j_ln Y (j_rf Y o 15))) with g15 | g15
                case inr => rw [if_neg g15] at hE; exact absurd hE (hG10 _)
                rw [if_pos g15] at hE
                refine jr_iald jc jw k14 (j_g_in g15) dX10_repeats_48 ?_
                obtain ⟨xx16, exx16, hE⟩ := j_bd hG10 hE
                try dsimp only at hE
                refine jc_vv [.int (mm12 (j_rf Y o 15) vv11.toNatClampNeg)] [] jc jw hA ho (by decide) rfl (c_X10_comes hY ho (M := mm12) exx16) sd_X10_165 rfl hl.1 (j_hR hRf hRl rfl rfl) (Nat.le_of_ble_eq_true rfl) dX10_repeats_49 (fun H locs jw => ?_)
                obtain ⟨vv17, evv17, hE⟩ := j_lv hE
                try dsimp only at hE
                refine lv_iinc (v := vv17) (lv' := [(4, .int vv17), (3, .int vv6), (2, .int vv4), (0, .ref (ad o)), (1, .int p1)]) hx hb dX10_repeats_52 hl (k := 0) rfl (by rw [evv17]; rfl) (by decide) rfl (fun ls hl => ?_)
                refine lv_goto (tgt := 35) hx hb dX10_repeats_55 (by decide) ?_
                exact ih vv17 xx16 H locs ls hE jw (lv_sub hl [0, 1, 2, 3, 4] rfl)
          exact LP10 j_fuel p1 mm7 H locs ls hE jw (lv_sub hl [0, 1, 2, 3, 4] rfl)
    exact LP5 j_fuel (1 : Int32) M H locs ls hE jw (lv_sub hl [0, 1, 2, 3] rfl)
def lp_X10_readsItem_1 (Y : JY) (q1 : Nat) (rec : (JM → Nat → Option (Int32 × JM))) (n : Nat) (vv15 : Int32) (mm16 : JM) : Option (Int32 × JM) := match n with
  | 0 => none
  | n + 1 => if vv15 = 0 then (some (vv15, mm16)) else ((s_X10_here Y mm16 q1).bind fun xx18 => if xx18 = (41 : Int32) then (some (vv15, mm16)) else ((rec mm16 q1).bind fun xx20 => lt_ xx20.1 fun vv22 => lp_X10_readsItem_1 Y q1 rec n vv22 xx20.2))
def s_X10_readsItem_b (Y : JY) (rec : JM → Nat → Option (Int32 × JM)) (M : JM) (q1 : Nat) : Option (Int32 × JM) := lt_ (M q1 18) fun vv1 => (s_X10_here Y M q1).bind fun xx2 => (if (s_X10_in Y M xx2 (97 : Int32) (122 : Int32)) = 0 then ((s_X10_here Y M q1).bind fun xx6 => if ¬ (xx6 = (40 : Int32)) ∨ (M q1 17) = (4 : Int32) then (some (Sum.inr ((0 : Int32), M))) else (lt_ (j_up M q1 17 ((M q1 17) + (1 : Int32))) fun mm9 => lt_ (j_up mm9 q1 16 ((mm9 q1 16) + (1 : Int32))) fun mm10 => (rec mm10 q1).bind fun xx11 => lt_ xx11.1 fun vv13 => (lp_X10_readsItem_1 Y q1 rec j_fuel vv13 xx11.2).bind fun xx28 => if xx28.1 = 0 then (some (Sum.inr ((0 : Int32), xx28.2))) else (lt_ (j_up xx28.2 q1 16 ((xx28.2 q1 16) + (1 : Int32))) fun mm26 => lt_ (j_up mm26 q1 17 ((mm26 q1 17) - (1 : Int32))) fun mm27 => some (Sum.inl mm27)))) else ((s_X10_here Y M q1).bind fun xx30 => (s_X10_comes Y M q1 (xx30 - (97 : Int32))).bind fun xx31 => lt_ (j_up xx31 q1 16 ((xx31 q1 16) + (1 : Int32))) fun mm32 => some (Sum.inl mm32))).bind fun xx35 => match xx35 with | Sum.inl yy35 => ((s_X10_repeats Y yy35 q1 vv1).bind fun xx34 => some ((1 : Int32), xx34)) | Sum.inr yy35 => (some (yy35.1, yy35.2))
def s_X10_readsItem (Y : JY) : Nat → JM → Nat → Option (Int32 × JM)
  | 0 => fun _ _ => none
  | n + 1 => fun M q1 => s_X10_readsItem_b Y (s_X10_readsItem Y n) M q1
theorem c_X10_readsItem_0 {D : va_G} {Y : JY} {ty : Nat → ClassId} {ad : Nat → Nat} {sz : Nat} {l : Launch} {M : JM} (hY : j_ok Y) {q1 : Nat} (hq1 : j_kd Y q1 = 10) {r : Int32 × JM} (hE : s_X10_readsItem Y 0 M q1 = some r) : JMz D Y ty ad sz l yX10_readsItem cX10_readsItem 3 0 0 [.ref (ad q1)] M r.1 r.2 := by
  exact absurd hE (by intro q; cases q)
set_option maxRecDepth 100000 in
set_option maxHeartbeats 4000000 in
theorem c_X10_readsItem_1 {D : va_G} {Y : JY} {ty : Nat → ClassId} {ad : Nat → Nat} {sz : Nat} {l : Launch} {M : JM} (hY : j_ok Y) {q1 : Nat} (hq1 : j_kd Y q1 = 10) {r : Int32 × JM} (hE : s_X10_readsItem Y 1 M q1 = some r) : JMz D Y ty ad sz l yX10_readsItem cX10_readsItem 3 2 46 [.ref (ad q1)] M r.1 r.2 := by
  refine j_ofZ hY (by decide +kernel) (Nat.le_of_ble_eq_true rfl) (fun p e s m below meth c args R Q A hRf hRl hA jc jw kr ls hl => ?_)
  have hx := jc.1
  have hb := jc.2.1
  have hl : lv_has ls 3 [(0, .ref (ad q1))] := hl
  change s_X10_readsItem_b Y (s_X10_readsItem Y 0) M q1 = some r at hE; unfold s_X10_readsItem_b at hE
  obtain ⟨G0, eG0, hG0, hE⟩ := j_F0o hE
  refine lv_aload_n hx hb dX10_readsItem_0 rfl (lv_at hl 0 rfl) ?_
  refine jg_10_18 jc jw hq1 wd_6_77 dX10_readsItem_1 ?_
  refine lv_topi (fun vv1 evv1 => ?_)
  replace hE := j_lu hE evv1
  try dsimp only at hE
  refine lv_istore_n (lv' := [(1, .int vv1), (0, .ref (ad q1))]) hx hb dX10_readsItem_4 rfl hl (by decide) rfl (fun ls hl => ?_)
  refine lv_aload_n hx hb dX10_readsItem_5 rfl (lv_at hl 1 rfl) ?_
  obtain ⟨xx2, exx2, hE⟩ := j_bd hG0 hE
  try dsimp only at hE
  refine jc_vi [] [] jc jw hA hq1 (by decide) rfl (c_X10_here hY hq1 (M := M) exx2) sd_X10_161 rfl hl.1 (j_hR hRf hRl rfl rfl) (Nat.le_of_ble_eq_true rfl) dX10_readsItem_6 (fun H locs jw => ?_)
  refine lv_bipush (v := 97) hx hb dX10_readsItem_9 (by decide) ?_
  refine lv_bipush (v := 122) hx hb dX10_readsItem_11 (by decide) ?_
  refine jc_sz [.int xx2, .int (97 : Int32), .int (122 : Int32)] [] jc jw hA (c_X10_in hY  (M := M) rfl) sd_X10_119 rfl hl.1 (j_hR hRf hRl rfl rfl) (Nat.le_of_ble_eq_true rfl) dX10_readsItem_13 (fun H locs jw hz => ?_)
  have z_3 := hz
  obtain ⟨G5, eG5, hG5, hE⟩ := j_ctxB hG0 hE
  have J5 : ∀ (mm33 : JM)  (H : Heap) (locs : List Loc) (ls : Array Slot), G5 (some (Sum.inl mm33)) = some r → JW D Y ty ad A s.heap mm33 H locs → lv_has ls 3 [(1, .int vv1), (0, .ref (ad q1))] → W p l e R s m args below meth c H locs 0 0 Q (F0 m 134 ls []) := by
    intro mm33  H locs ls hE jw hl
    replace hE := j_popB eG5 hE
    try dsimp only at hE
    refine lv_aload_n hx hb dX10_readsItem_134 rfl (lv_at hl 1 rfl) ?_
    refine lv_iload_n hx hb dX10_readsItem_135 rfl (lv_at hl 0 rfl) ?_
    obtain ⟨xx34, exx34, hE⟩ := j_bd hG0 hE
    try dsimp only at hE
    refine jc_vv [.int vv1] [] jc jw hA hq1 (by decide) rfl (c_X10_repeats hY hq1 (M := mm33) exx34) sd_X10_175 rfl hl.1 (j_hR hRf hRl rfl rfl) (Nat.le_of_ble_eq_true rfl) dX10_readsItem_136 (fun H locs jw => ?_)
    refine lv_iconst (v := 1) hx hb dX10_readsItem_139 (by decide) ?_
    exact kr _ _ _ _ _ _ (congrArg Prod.fst (Option.some.inj (j_ret eG0 hE))) (congrArg Prod.snd (Option.some.inj (j_ret eG0 hE))) (by decide) jw dX10_readsItem_140
  refine lv_if_eq (tgt := 43) hx hb dX10_readsItem_16 (by decide) (fun c4 => ?_) (fun c4 => ?_)
  · rw [if_pos c4] at hE
    refine lv_aload_n hx hb dX10_readsItem_43 rfl (lv_at hl 1 rfl) ?_
    obtain ⟨xx6, exx6, hE⟩ := j_bd hG5 hE
    try dsimp only at hE
    refine jc_vi [] [] jc jw hA hq1 (by decide) rfl (c_X10_here hY hq1 (M := M) exx6) sd_X10_161 rfl hl.1 (j_hR hRf hRl rfl rfl) (Nat.le_of_ble_eq_true rfl) dX10_readsItem_44 (fun H locs jw => ?_)
    refine lv_bipush (v := 40) hx hb dX10_readsItem_47 (by decide) ?_
    have B29 : ∀ (H : Heap) (locs : List Loc), JW D Y ty ad A s.heap M H locs → (¬ (xx6 = (40 : Int32)) ∨ (M q1 17) = (4 : Int32)) → W p l e R s m args below meth c H locs 0 0 Q (F0 m 60 ls []) := by
      intro H locs jw hcc
      rw [if_pos hcc] at hE
      refine lv_iconst (v := 0) hx hb dX10_readsItem_60 (by decide) ?_
      replace hE := j_popB eG5 hE
      try dsimp only at hE
      exact kr _ _ _ _ _ _ (congrArg Prod.fst (Option.some.inj (j_ret eG0 hE))) (congrArg Prod.snd (Option.some.inj (j_ret eG0 hE))) (by decide) jw dX10_readsItem_61
    refine lv_icmp_ne (tgt := 60) hx hb dX10_readsItem_49 (by decide) (fun c7 => B29 _ _ jw (Or.inl c7)) (fun c7 => ?_)
    refine lv_aload_n hx hb dX10_readsItem_52 rfl (lv_at hl 1 rfl) ?_
    refine jg_10_17 jc jw hq1 wd_6_76 dX10_readsItem_53 ?_
    refine lv_iconst (v := 4) hx hb dX10_readsItem_56 (by decide) ?_
    refine lv_icmp_ne (tgt := 62) hx hb dX10_readsItem_57 (by decide) (fun c8 => ?_) (fun c8 => B29 _ _ jw (Or.inr c8))
    rw [if_neg (fun hq => hq.elim (fun hq => (j_absn c7 hq)) (fun hq => (j_abs c8 hq)))] at hE
    refine lv_aload_n hx hb dX10_readsItem_62 rfl (lv_at hl 1 rfl) ?_
    refine lv_dup hx hb dX10_readsItem_63 rfl ?_
    refine jg_10_17 jc jw hq1 wd_6_76 dX10_readsItem_64 ?_
    refine lv_iconst (v := 1) hx hb dX10_readsItem_67 (by decide) ?_
    refine lv_iadd hx hb dX10_readsItem_68 ?_
    refine js_10_17 jc jw hq1 wd_6_76 dX10_readsItem_69 (fun H locs jw => ?_)
    obtain ⟨mm9, emm9, hE⟩ := j_lv hE
    rw [← emm9] at jw
    try dsimp only at hE
    refine lv_aload_n hx hb dX10_readsItem_72 rfl (lv_at hl 1 rfl) ?_
    refine lv_dup hx hb dX10_readsItem_73 rfl ?_
    refine jg_10_16 jc jw hq1 wd_6_75 dX10_readsItem_74 ?_
    refine lv_iconst (v := 1) hx hb dX10_readsItem_77 (by decide) ?_
    refine lv_iadd hx hb dX10_readsItem_78 ?_
    refine js_10_16 jc jw hq1 wd_6_75 dX10_readsItem_79 (fun H locs jw => ?_)
    obtain ⟨mm10, emm10, hE⟩ := j_lv hE
    rw [← emm10] at jw
    try dsimp only at hE
    refine lv_aload_n hx hb dX10_readsItem_82 rfl (lv_at hl 1 rfl) ?_
    obtain ⟨xx11, exx11, hE⟩ := j_bd hG5 hE
    try dsimp only at hE
    refine jc_sz [.ref (ad q1)] [] jc jw hA (c_X10_readsItem_0 hY hq1 (M := mm10) exx11) sd_X10_171 rfl hl.1 (j_hR hRf hRl rfl rfl) (Nat.le_of_ble_eq_true rfl) dX10_readsItem_83 (fun H locs jw hz => ?_)
    have z_12 := hz
    refine lv_topi (fun vv13 evv13 => ?_)
    replace hE := j_lu hE evv13
    try dsimp only at hE
    have zvv13 : vv13 = 0 ∨ vv13 = 1 := by rw [evv13]; exact z_12
    refine lv_istore_n (lv' := [(2, .int vv13), (1, .int vv1), (0, .ref (ad q1))]) hx hb dX10_readsItem_86 rfl hl (by decide) rfl (fun ls hl => ?_)
    obtain ⟨G14, eG14, hG14, hE⟩ := j_ctxB hG5 hE
    have E14_108 : ∀ (vv23 : Int32) (mm24 : JM)  (H : Heap) (locs : List Loc) (ls : Array Slot), G14 (some (vv23, mm24)) = some r → JW D Y ty ad A s.heap mm24 H locs → lv_has ls 3 [(2, .int vv23), (1, .int vv1), (0, .ref (ad q1))] → W p l e R s m args below meth c H locs 0 0 Q (F0 m 108 ls []) := by
      intro vv23 mm24  H locs ls hE jw hl
      replace hE := j_popB eG14 hE
      try dsimp only at hE
      refine lv_iload_n hx hb dX10_readsItem_108 rfl (lv_at hl 0 rfl) ?_
      refine lv_if_ne (tgt := 114) hx hb dX10_readsItem_109 (by decide) (fun c25 => ?_) (fun c25 => ?_)
      · rw [if_neg c25] at hE
        refine lv_aload_n hx hb dX10_readsItem_114 rfl (lv_at hl 2 rfl) ?_
        refine lv_dup hx hb dX10_readsItem_115 rfl ?_
        refine jg_10_16 jc jw hq1 wd_6_75 dX10_readsItem_116 ?_
        refine lv_iconst (v := 1) hx hb dX10_readsItem_119 (by decide) ?_
        refine lv_iadd hx hb dX10_readsItem_120 ?_
        refine js_10_16 jc jw hq1 wd_6_75 dX10_readsItem_121 (fun H locs jw => ?_)
        obtain ⟨mm26, emm26, hE⟩ := j_lv hE
        rw [← emm26] at jw
        try dsimp only at hE
        refine lv_aload_n hx hb dX10_readsItem_124 rfl (lv_at hl 2 rfl) ?_
        refine lv_dup hx hb dX10_readsItem_125 rfl ?_
        refine jg_10_17 jc jw hq1 wd_6_76 dX10_readsItem_126 ?_
        refine lv_iconst (v := 1) hx hb dX10_readsItem_129 (by decide) ?_
        refine lv_isub hx hb dX10_readsItem_130 ?_
        refine js_10_17 jc jw hq1 wd_6_76 dX10_readsItem_131 (fun H locs jw => ?_)
        obtain ⟨mm27, emm27, hE⟩ := j_lv hE
        rw [← emm27] at jw
        try dsimp only at hE
        exact J5 mm27  H locs ls hE jw (lv_sub hl [1, 2] rfl)
      · rw [if_pos c25] at hE
        refine lv_iconst (v := 0) hx hb dX10_readsItem_112 (by decide) ?_
        replace hE := j_popB eG5 hE
        try dsimp only at hE
        exact kr _ _ _ _ _ _ (congrArg Prod.fst (Option.some.inj (j_ret eG0 hE))) (congrArg Prod.snd (Option.some.inj (j_ret eG0 hE))) (by decide) jw dX10_readsItem_113
    have LP14 : ∀ (n : Nat) (vv15 : Int32) (mm16 : JM) (H : Heap) (locs : List Loc) (ls : Array Slot), G14 (lp_X10_readsItem_1 Y q1 (s_X10_readsItem Y 0) n vv15 mm16) = some r → JW D Y ty ad A s.heap mm16 H locs → lv_has ls 3 [(2, .int vv15), (1, .int vv1), (0, .ref (ad q1))] → W p l e R s m args below meth c H locs 0 0 Q (F0 m 87 ls []) := by
      intro n
      induction n with
      | zero => intro vv15 mm16 H locs ls hE jw hl; exact absurd hE (hG14 _)
      | succ n ih =>
        intro vv15 mm16 H locs ls hE jw hl
        rw [lp_X10_readsItem_1] at hE
        refine lv_iload_n hx hb dX10_readsItem_87 rfl (lv_at hl 0 rfl) ?_
        refine lv_if_eq (tgt := 108) hx hb dX10_readsItem_88 (by decide) (fun c17 => ?_) (fun c17 => ?_)
        · rw [if_pos c17] at hE
          exact E14_108 vv15 mm16  H locs ls hE jw (lv_sub hl [0, 1, 2] rfl)
        · rw [if_neg c17] at hE
          refine lv_aload_n hx hb dX10_readsItem_91 rfl (lv_at hl 2 rfl) ?_
          obtain ⟨xx18, exx18, hE⟩ := j_bd hG14 hE
          try dsimp only at hE
          refine jc_vi [] [] jc jw hA hq1 (by decide) rfl (c_X10_here hY hq1 (M := mm16) exx18) sd_X10_161 rfl hl.1 (j_hR hRf hRl rfl rfl) (Nat.le_of_ble_eq_true rfl) dX10_readsItem_92 (fun H locs jw => ?_)
          refine lv_bipush (v := 41) hx hb dX10_readsItem_95 (by decide) ?_
          refine lv_icmp_eq (tgt := 108) hx hb dX10_readsItem_97 (by decide) (fun c19 => ?_) (fun c19 => ?_)
          · rw [if_pos c19] at hE
            exact E14_108 vv15 mm16  H locs ls hE jw (lv_sub hl [0, 1, 2] rfl)
          · rw [if_neg c19] at hE
            refine lv_aload_n hx hb dX10_readsItem_100 rfl (lv_at hl 2 rfl) ?_
            obtain ⟨xx20, exx20, hE⟩ := j_bd hG14 hE
            try dsimp only at hE
            refine jc_sz [.ref (ad q1)] [] jc jw hA (c_X10_readsItem_0 hY hq1 (M := mm16) exx20) sd_X10_171 rfl hl.1 (j_hR hRf hRl rfl rfl) (Nat.le_of_ble_eq_true rfl) dX10_readsItem_101 (fun H locs jw hz => ?_)
            have z_21 := hz
            refine lv_topi (fun vv22 evv22 => ?_)
            replace hE := j_lu hE evv22
            try dsimp only at hE
            have zvv22 : vv22 = 0 ∨ vv22 = 1 := by rw [evv22]; exact z_21
            refine lv_istore_n (lv' := [(2, .int vv22), (1, .int vv1), (0, .ref (ad q1))]) hx hb dX10_readsItem_104 rfl hl (by decide) rfl (fun ls hl => ?_)
            refine lv_goto (tgt := 87) hx hb dX10_readsItem_105 (by decide) ?_
            exact ih vv22 xx20.2 H locs ls hE jw (lv_sub hl [0, 1, 2] rfl)
    exact LP14 j_fuel vv13 xx11.2 H locs ls hE jw (lv_sub hl [0, 1, 2] rfl)
  · rw [if_neg c4] at hE
    refine lv_aload_n hx hb dX10_readsItem_19 rfl (lv_at hl 1 rfl) ?_
    refine lv_aload_n hx hb dX10_readsItem_20 rfl (lv_at hl 1 rfl) ?_
    obtain ⟨xx30, exx30, hE⟩ := j_bd hG5 hE
    try dsimp only at hE
    refine jc_vi [] [.ref (ad q1)] jc jw hA hq1 (by decide) rfl (c_X10_here hY hq1 (M := M) exx30) sd_X10_161 rfl hl.1 (j_hR hRf hRl rfl rfl) (Nat.le_of_ble_eq_true rfl) dX10_readsItem_21 (fun H locs jw => ?_)
    refine lv_bipush (v := 97) hx hb dX10_readsItem_24 (by decide) ?_
    refine lv_isub hx hb dX10_readsItem_26 ?_
    obtain ⟨xx31, exx31, hE⟩ := j_bd hG5 hE
    try dsimp only at hE
    refine jc_vv [.int (xx30 - (97 : Int32))] [] jc jw hA hq1 (by decide) rfl (c_X10_comes hY hq1 (M := M) exx31) sd_X10_165 rfl hl.1 (j_hR hRf hRl rfl rfl) (Nat.le_of_ble_eq_true rfl) dX10_readsItem_27 (fun H locs jw => ?_)
    refine lv_aload_n hx hb dX10_readsItem_30 rfl (lv_at hl 1 rfl) ?_
    refine lv_dup hx hb dX10_readsItem_31 rfl ?_
    refine jg_10_16 jc jw hq1 wd_6_75 dX10_readsItem_32 ?_
    refine lv_iconst (v := 1) hx hb dX10_readsItem_35 (by decide) ?_
    refine lv_iadd hx hb dX10_readsItem_36 ?_
    refine js_10_16 jc jw hq1 wd_6_75 dX10_readsItem_37 (fun H locs jw => ?_)
    obtain ⟨mm32, emm32, hE⟩ := j_lv hE
    rw [← emm32] at jw
    try dsimp only at hE
    refine lv_goto (tgt := 134) hx hb dX10_readsItem_40 (by decide) ?_
    exact J5 mm32  H locs ls hE jw (lv_sub hl [0, 1] rfl)
set_option maxRecDepth 100000 in
set_option maxHeartbeats 4000000 in
theorem c_X10_readsItem_2 {D : va_G} {Y : JY} {ty : Nat → ClassId} {ad : Nat → Nat} {sz : Nat} {l : Launch} {M : JM} (hY : j_ok Y) {q1 : Nat} (hq1 : j_kd Y q1 = 10) {r : Int32 × JM} (hE : s_X10_readsItem Y 2 M q1 = some r) : JMz D Y ty ad sz l yX10_readsItem cX10_readsItem 3 3 68 [.ref (ad q1)] M r.1 r.2 := by
  refine j_ofZ hY (by decide +kernel) (Nat.le_of_ble_eq_true rfl) (fun p e s m below meth c args R Q A hRf hRl hA jc jw kr ls hl => ?_)
  have hx := jc.1
  have hb := jc.2.1
  have hl : lv_has ls 3 [(0, .ref (ad q1))] := hl
  change s_X10_readsItem_b Y (s_X10_readsItem Y 1) M q1 = some r at hE; unfold s_X10_readsItem_b at hE
  obtain ⟨G0, eG0, hG0, hE⟩ := j_F0o hE
  refine lv_aload_n hx hb dX10_readsItem_0 rfl (lv_at hl 0 rfl) ?_
  refine jg_10_18 jc jw hq1 wd_6_77 dX10_readsItem_1 ?_
  refine lv_topi (fun vv1 evv1 => ?_)
  replace hE := j_lu hE evv1
  try dsimp only at hE
  refine lv_istore_n (lv' := [(1, .int vv1), (0, .ref (ad q1))]) hx hb dX10_readsItem_4 rfl hl (by decide) rfl (fun ls hl => ?_)
  refine lv_aload_n hx hb dX10_readsItem_5 rfl (lv_at hl 1 rfl) ?_
  obtain ⟨xx2, exx2, hE⟩ := j_bd hG0 hE
  try dsimp only at hE
  refine jc_vi [] [] jc jw hA hq1 (by decide) rfl (c_X10_here hY hq1 (M := M) exx2) sd_X10_161 rfl hl.1 (j_hR hRf hRl rfl rfl) (Nat.le_of_ble_eq_true rfl) dX10_readsItem_6 (fun H locs jw => ?_)
  refine lv_bipush (v := 97) hx hb dX10_readsItem_9 (by decide) ?_
  refine lv_bipush (v := 122) hx hb dX10_readsItem_11 (by decide) ?_
  refine jc_sz [.int xx2, .int (97 : Int32), .int (122 : Int32)] [] jc jw hA (c_X10_in hY  (M := M) rfl) sd_X10_119 rfl hl.1 (j_hR hRf hRl rfl rfl) (Nat.le_of_ble_eq_true rfl) dX10_readsItem_13 (fun H locs jw hz => ?_)
  have z_3 := hz
  obtain ⟨G5, eG5, hG5, hE⟩ := j_ctxB hG0 hE
  have J5 : ∀ (mm33 : JM)  (H : Heap) (locs : List Loc) (ls : Array Slot), G5 (some (Sum.inl mm33)) = some r → JW D Y ty ad A s.heap mm33 H locs → lv_has ls 3 [(1, .int vv1), (0, .ref (ad q1))] → W p l e R s m args below meth c H locs 0 0 Q (F0 m 134 ls []) := by
    intro mm33  H locs ls hE jw hl
    replace hE := j_popB eG5 hE
    try dsimp only at hE
    refine lv_aload_n hx hb dX10_readsItem_134 rfl (lv_at hl 1 rfl) ?_
    refine lv_iload_n hx hb dX10_readsItem_135 rfl (lv_at hl 0 rfl) ?_
    obtain ⟨xx34, exx34, hE⟩ := j_bd hG0 hE
    try dsimp only at hE
    refine jc_vv [.int vv1] [] jc jw hA hq1 (by decide) rfl (c_X10_repeats hY hq1 (M := mm33) exx34) sd_X10_175 rfl hl.1 (j_hR hRf hRl rfl rfl) (Nat.le_of_ble_eq_true rfl) dX10_readsItem_136 (fun H locs jw => ?_)
    refine lv_iconst (v := 1) hx hb dX10_readsItem_139 (by decide) ?_
    exact kr _ _ _ _ _ _ (congrArg Prod.fst (Option.some.inj (j_ret eG0 hE))) (congrArg Prod.snd (Option.some.inj (j_ret eG0 hE))) (by decide) jw dX10_readsItem_140
  refine lv_if_eq (tgt := 43) hx hb dX10_readsItem_16 (by decide) (fun c4 => ?_) (fun c4 => ?_)
  · rw [if_pos c4] at hE
    refine lv_aload_n hx hb dX10_readsItem_43 rfl (lv_at hl 1 rfl) ?_
    obtain ⟨xx6, exx6, hE⟩ := j_bd hG5 hE
    try dsimp only at hE
    refine jc_vi [] [] jc jw hA hq1 (by decide) rfl (c_X10_here hY hq1 (M := M) exx6) sd_X10_161 rfl hl.1 (j_hR hRf hRl rfl rfl) (Nat.le_of_ble_eq_true rfl) dX10_readsItem_44 (fun H locs jw => ?_)
    refine lv_bipush (v := 40) hx hb dX10_readsItem_47 (by decide) ?_
    have B29 : ∀ (H : Heap) (locs : List Loc), JW D Y ty ad A s.heap M H locs → (¬ (xx6 = (40 : Int32)) ∨ (M q1 17) = (4 : Int32)) → W p l e R s m args below meth c H locs 0 0 Q (F0 m 60 ls []) := by
      intro H locs jw hcc
      rw [if_pos hcc] at hE
      refine lv_iconst (v := 0) hx hb dX10_readsItem_60 (by decide) ?_
      replace hE := j_popB eG5 hE
      try dsimp only at hE
      exact kr _ _ _ _ _ _ (congrArg Prod.fst (Option.some.inj (j_ret eG0 hE))) (congrArg Prod.snd (Option.some.inj (j_ret eG0 hE))) (by decide) jw dX10_readsItem_61
    refine lv_icmp_ne (tgt := 60) hx hb dX10_readsItem_49 (by decide) (fun c7 => B29 _ _ jw (Or.inl c7)) (fun c7 => ?_)
    refine lv_aload_n hx hb dX10_readsItem_52 rfl (lv_at hl 1 rfl) ?_
    refine jg_10_17 jc jw hq1 wd_6_76 dX10_readsItem_53 ?_
    refine lv_iconst (v := 4) hx hb dX10_readsItem_56 (by decide) ?_
    refine lv_icmp_ne (tgt := 62) hx hb dX10_readsItem_57 (by decide) (fun c8 => ?_) (fun c8 => B29 _ _ jw (Or.inr c8))
    rw [if_neg (fun hq => hq.elim (fun hq => (j_absn c7 hq)) (fun hq => (j_abs c8 hq)))] at hE
    refine lv_aload_n hx hb dX10_readsItem_62 rfl (lv_at hl 1 rfl) ?_
    refine lv_dup hx hb dX10_readsItem_63 rfl ?_
    refine jg_10_17 jc jw hq1 wd_6_76 dX10_readsItem_64 ?_
    refine lv_iconst (v := 1) hx hb dX10_readsItem_67 (by decide) ?_
    refine lv_iadd hx hb dX10_readsItem_68 ?_
    refine js_10_17 jc jw hq1 wd_6_76 dX10_readsItem_69 (fun H locs jw => ?_)
    obtain ⟨mm9, emm9, hE⟩ := j_lv hE
    rw [← emm9] at jw
    try dsimp only at hE
    refine lv_aload_n hx hb dX10_readsItem_72 rfl (lv_at hl 1 rfl) ?_
    refine lv_dup hx hb dX10_readsItem_73 rfl ?_
    refine jg_10_16 jc jw hq1 wd_6_75 dX10_readsItem_74 ?_
    refine lv_iconst (v := 1) hx hb dX10_readsItem_77 (by decide) ?_
    refine lv_iadd hx hb dX10_readsItem_78 ?_
    refine js_10_16 jc jw hq1 wd_6_75 dX10_readsItem_79 (fun H locs jw => ?_)
    obtain ⟨mm10, emm10, hE⟩ := j_lv hE
    rw [← emm10] at jw
    try dsimp only at hE
    refine lv_aload_n hx hb dX10_readsItem_82 rfl (lv_at hl 1 rfl) ?_
    obtain ⟨xx11, exx11, hE⟩ := j_bd hG5 hE
    try dsimp only at hE
    refine jc_sz [.ref (ad q1)] [] jc jw hA (c_X10_readsItem_1 hY hq1 (M := mm10) exx11) sd_X10_171 rfl hl.1 (j_hR hRf hRl rfl rfl) (Nat.le_of_ble_eq_true rfl) dX10_readsItem_83 (fun H locs jw hz => ?_)
    have z_12 := hz
    refine lv_topi (fun vv13 evv13 => ?_)
    replace hE := j_lu hE evv13
    try dsimp only at hE
    have zvv13 : vv13 = 0 ∨ vv13 = 1 := by rw [evv13]; exact z_12
    refine lv_istore_n (lv' := [(2, .int vv13), (1, .int vv1), (0, .ref (ad q1))]) hx hb dX10_readsItem_86 rfl hl (by decide) rfl (fun ls hl => ?_)
    obtain ⟨G14, eG14, hG14, hE⟩ := j_ctxB hG5 hE
    have E14_108 : ∀ (vv23 : Int32) (mm24 : JM)  (H : Heap) (locs : List Loc) (ls : Array Slot), G14 (some (vv23, mm24)) = some r → JW D Y ty ad A s.heap mm24 H locs → lv_has ls 3 [(2, .int vv23), (1, .int vv1), (0, .ref (ad q1))] → W p l e R s m args below meth c H locs 0 0 Q (F0 m 108 ls []) := by
      intro vv23 mm24  H locs ls hE jw hl
      replace hE := j_popB eG14 hE
      try dsimp only at hE
      refine lv_iload_n hx hb dX10_readsItem_108 rfl (lv_at hl 0 rfl) ?_
      refine lv_if_ne (tgt := 114) hx hb dX10_readsItem_109 (by decide) (fun c25 => ?_) (fun c25 => ?_)
      · rw [if_neg c25] at hE
        refine lv_aload_n hx hb dX10_readsItem_114 rfl (lv_at hl 2 rfl) ?_
        refine lv_dup hx hb dX10_readsItem_115 rfl ?_
        refine jg_10_16 jc jw hq1 wd_6_75 dX10_readsItem_116 ?_
        refine lv_iconst (v := 1) hx hb dX10_readsItem_119 (by decide) ?_
        refine lv_iadd hx hb dX10_readsItem_120 ?_
        refine js_10_16 jc jw hq1 wd_6_75 dX10_readsItem_121 (fun H locs jw => ?_)
        obtain ⟨mm26, emm26, hE⟩ := j_lv hE
        rw [← emm26] at jw
        try dsimp only at hE
        refine lv_aload_n hx hb dX10_readsItem_124 rfl (lv_at hl 2 rfl) ?_
        refine lv_dup hx hb dX10_readsItem_125 rfl ?_
        refine jg_10_17 jc jw hq1 wd_6_76 dX10_readsItem_126 ?_
        refine lv_iconst (v := 1) hx hb dX10_readsItem_129 (by decide) ?_
        refine lv_isub hx hb dX10_readsItem_130 ?_
        refine js_10_17 jc jw hq1 wd_6_76 dX10_readsItem_131 (fun H locs jw => ?_)
        obtain ⟨mm27, emm27, hE⟩ := j_lv hE
        rw [← emm27] at jw
        try dsimp only at hE
        exact J5 mm27  H locs ls hE jw (lv_sub hl [1, 2] rfl)
      · rw [if_pos c25] at hE
        refine lv_iconst (v := 0) hx hb dX10_readsItem_112 (by decide) ?_
        replace hE := j_popB eG5 hE
        try dsimp only at hE
        exact kr _ _ _ _ _ _ (congrArg Prod.fst (Option.some.inj (j_ret eG0 hE))) (congrArg Prod.snd (Option.some.inj (j_ret eG0 hE))) (by decide) jw dX10_readsItem_113
    have LP14 : ∀ (n : Nat) (vv15 : Int32) (mm16 : JM) (H : Heap) (locs : List Loc) (ls : Array Slot), G14 (lp_X10_readsItem_1 Y q1 (s_X10_readsItem Y 1) n vv15 mm16) = some r → JW D Y ty ad A s.heap mm16 H locs → lv_has ls 3 [(2, .int vv15), (1, .int vv1), (0, .ref (ad q1))] → W p l e R s m args below meth c H locs 0 0 Q (F0 m 87 ls []) := by
      intro n
      induction n with
      | zero => intro vv15 mm16 H locs ls hE jw hl; exact absurd hE (hG14 _)
      | succ n ih =>
        intro vv15 mm16 H locs ls hE jw hl
        rw [lp_X10_readsItem_1] at hE
        refine lv_iload_n hx hb dX10_readsItem_87 rfl (lv_at hl 0 rfl) ?_
        refine lv_if_eq (tgt := 108) hx hb dX10_readsItem_88 (by decide) (fun c17 => ?_) (fun c17 => ?_)
        · rw [if_pos c17] at hE
          exact E14_108 vv15 mm16  H locs ls hE jw (lv_sub hl [0, 1, 2] rfl)
        · rw [if_neg c17] at hE
          refine lv_aload_n hx hb dX10_readsItem_91 rfl (lv_at hl 2 rfl) ?_
          obtain ⟨xx18, exx18, hE⟩ := j_bd hG14 hE
          try dsimp only at hE
          refine jc_vi [] [] jc jw hA hq1 (by decide) rfl (c_X10_here hY hq1 (M := mm16) exx18) sd_X10_161 rfl hl.1 (j_hR hRf hRl rfl rfl) (Nat.le_of_ble_eq_true rfl) dX10_readsItem_92 (fun H locs jw => ?_)
          refine lv_bipush (v := 41) hx hb dX10_readsItem_95 (by decide) ?_
          refine lv_icmp_eq (tgt := 108) hx hb dX10_readsItem_97 (by decide) (fun c19 => ?_) (fun c19 => ?_)
          · rw [if_pos c19] at hE
            exact E14_108 vv15 mm16  H locs ls hE jw (lv_sub hl [0, 1, 2] rfl)
          · rw [if_neg c19] at hE
            refine lv_aload_n hx hb dX10_readsItem_100 rfl (lv_at hl 2 rfl) ?_
            obtain ⟨xx20, exx20, hE⟩ := j_bd hG14 hE
            try dsimp only at hE
            refine jc_sz [.ref (ad q1)] [] jc jw hA (c_X10_readsItem_1 hY hq1 (M := mm16) exx20) sd_X10_171 rfl hl.1 (j_hR hRf hRl rfl rfl) (Nat.le_of_ble_eq_true rfl) dX10_readsItem_101 (fun H locs jw hz => ?_)
            have z_21 := hz
            refine lv_topi (fun vv22 evv22 => ?_)
            replace hE := j_lu hE evv22
            try dsimp only at hE
            have zvv22 : vv22 = 0 ∨ vv22 = 1 := by rw [evv22]; exact z_21
            refine lv_istore_n (lv' := [(2, .int vv22), (1, .int vv1), (0, .ref (ad q1))]) hx hb dX10_readsItem_104 rfl hl (by decide) rfl (fun ls hl => ?_)
            refine lv_goto (tgt := 87) hx hb dX10_readsItem_105 (by decide) ?_
            exact ih vv22 xx20.2 H locs ls hE jw (lv_sub hl [0, 1, 2] rfl)
    exact LP14 j_fuel vv13 xx11.2 H locs ls hE jw (lv_sub hl [0, 1, 2] rfl)
  · rw [if_neg c4] at hE
    refine lv_aload_n hx hb dX10_readsItem_19 rfl (lv_at hl 1 rfl) ?_
    refine lv_aload_n hx hb dX10_readsItem_20 rfl (lv_at hl 1 rfl) ?_
    obtain ⟨xx30, exx30, hE⟩ := j_bd hG5 hE
    try dsimp only at hE
    refine jc_vi [] [.ref (ad q1)] jc jw hA hq1 (by decide) rfl (c_X10_here hY hq1 (M := M) exx30) sd_X10_161 rfl hl.1 (j_hR hRf hRl rfl rfl) (Nat.le_of_ble_eq_true rfl) dX10_readsItem_21 (fun H locs jw => ?_)
    refine lv_bipush (v := 97) hx hb dX10_readsItem_24 (by decide) ?_
    refine lv_isub hx hb dX10_readsItem_26 ?_
    obtain ⟨xx31, exx31, hE⟩ := j_bd hG5 hE
    try dsimp only at hE
    refine jc_vv [.int (xx30 - (97 : Int32))] [] jc jw hA hq1 (by decide) rfl (c_X10_comes hY hq1 (M := M) exx31) sd_X10_165 rfl hl.1 (j_hR hRf hRl rfl rfl) (Nat.le_of_ble_eq_true rfl) dX10_readsItem_27 (fun H locs jw => ?_)
    refine lv_aload_n hx hb dX10_readsItem_30 rfl (lv_at hl 1 rfl) ?_
    refine lv_dup hx hb dX10_readsItem_31 rfl ?_
    refine jg_10_16 jc jw hq1 wd_6_75 dX10_readsItem_32 ?_
    refine lv_iconst (v := 1) hx hb dX10_readsItem_35 (by decide) ?_
    refine lv_iadd hx hb dX10_readsItem_36 ?_
    refine js_10_16 jc jw hq1 wd_6_75 dX10_readsItem_37 (fun H locs jw => ?_)
    obtain ⟨mm32, emm32, hE⟩ := j_lv hE
    rw [← emm32] at jw
    try dsimp only at hE
    refine lv_goto (tgt := 134) hx hb dX10_readsItem_40 (by decide) ?_
    exact J5 mm32  H locs ls hE jw (lv_sub hl [0, 1] rfl)
set_option maxRecDepth 100000 in
set_option maxHeartbeats 4000000 in
theorem c_X10_readsItem_3 {D : va_G} {Y : JY} {ty : Nat → ClassId} {ad : Nat → Nat} {sz : Nat} {l : Launch} {M : JM} (hY : j_ok Y) {q1 : Nat} (hq1 : j_kd Y q1 = 10) {r : Int32 × JM} (hE : s_X10_readsItem Y 3 M q1 = some r) : JMz D Y ty ad sz l yX10_readsItem cX10_readsItem 3 4 90 [.ref (ad q1)] M r.1 r.2 := by
  refine j_ofZ hY (by decide +kernel) (Nat.le_of_ble_eq_true rfl) (fun p e s m below meth c args R Q A hRf hRl hA jc jw kr ls hl => ?_)
  have hx := jc.1
  have hb := jc.2.1
  have hl : lv_has ls 3 [(0, .ref (ad q1))] := hl
  change s_X10_readsItem_b Y (s_X10_readsItem Y 2) M q1 = some r at hE; unfold s_X10_readsItem_b at hE
  obtain ⟨G0, eG0, hG0, hE⟩ := j_F0o hE
  refine lv_aload_n hx hb dX10_readsItem_0 rfl (lv_at hl 0 rfl) ?_
  refine jg_10_18 jc jw hq1 wd_6_77 dX10_readsItem_1 ?_
  refine lv_topi (fun vv1 evv1 => ?_)
  replace hE := j_lu hE evv1
  try dsimp only at hE
  refine lv_istore_n (lv' := [(1, .int vv1), (0, .ref (ad q1))]) hx hb dX10_readsItem_4 rfl hl (by decide) rfl (fun ls hl => ?_)
  refine lv_aload_n hx hb dX10_readsItem_5 rfl (lv_at hl 1 rfl) ?_
  obtain ⟨xx2, exx2, hE⟩ := j_bd hG0 hE
  try dsimp only at hE
  refine jc_vi [] [] jc jw hA hq1 (by decide) rfl (c_X10_here hY hq1 (M := M) exx2) sd_X10_161 rfl hl.1 (j_hR hRf hRl rfl rfl) (Nat.le_of_ble_eq_true rfl) dX10_readsItem_6 (fun H locs jw => ?_)
  refine lv_bipush (v := 97) hx hb dX10_readsItem_9 (by decide) ?_
  refine lv_bipush (v := 122) hx hb dX10_readsItem_11 (by decide) ?_
  refine jc_sz [.int xx2, .int (97 : Int32), .int (122 : Int32)] [] jc jw hA (c_X10_in hY  (M := M) rfl) sd_X10_119 rfl hl.1 (j_hR hRf hRl rfl rfl) (Nat.le_of_ble_eq_true rfl) dX10_readsItem_13 (fun H locs jw hz => ?_)
  have z_3 := hz
  obtain ⟨G5, eG5, hG5, hE⟩ := j_ctxB hG0 hE
  have J5 : ∀ (mm33 : JM)  (H : Heap) (locs : List Loc) (ls : Array Slot), G5 (some (Sum.inl mm33)) = some r → JW D Y ty ad A s.heap mm33 H locs → lv_has ls 3 [(1, .int vv1), (0, .ref (ad q1))] → W p l e R s m args below meth c H locs 0 0 Q (F0 m 134 ls []) := by
    intro mm33  H locs ls hE jw hl
    replace hE := j_popB eG5 hE
    try dsimp only at hE
    refine lv_aload_n hx hb dX10_readsItem_134 rfl (lv_at hl 1 rfl) ?_
    refine lv_iload_n hx hb dX10_readsItem_135 rfl (lv_at hl 0 rfl) ?_
    obtain ⟨xx34, exx34, hE⟩ := j_bd hG0 hE
    try dsimp only at hE
    refine jc_vv [.int vv1] [] jc jw hA hq1 (by decide) rfl (c_X10_repeats hY hq1 (M := mm33) exx34) sd_X10_175 rfl hl.1 (j_hR hRf hRl rfl rfl) (Nat.le_of_ble_eq_true rfl) dX10_readsItem_136 (fun H locs jw => ?_)
    refine lv_iconst (v := 1) hx hb dX10_readsItem_139 (by decide) ?_
    exact kr _ _ _ _ _ _ (congrArg Prod.fst (Option.some.inj (j_ret eG0 hE))) (congrArg Prod.snd (Option.some.inj (j_ret eG0 hE))) (by decide) jw dX10_readsItem_140
  refine lv_if_eq (tgt := 43) hx hb dX10_readsItem_16 (by decide) (fun c4 => ?_) (fun c4 => ?_)
  · rw [if_pos c4] at hE
    refine lv_aload_n hx hb dX10_readsItem_43 rfl (lv_at hl 1 rfl) ?_
    obtain ⟨xx6, exx6, hE⟩ := j_bd hG5 hE
    try dsimp only at hE
    refine jc_vi [] [] jc jw hA hq1 (by decide) rfl (c_X10_here hY hq1 (M := M) exx6) sd_X10_161 rfl hl.1 (j_hR hRf hRl rfl rfl) (Nat.le_of_ble_eq_true rfl) dX10_readsItem_44 (fun H locs jw => ?_)
    refine lv_bipush (v := 40) hx hb dX10_readsItem_47 (by decide) ?_
    have B29 : ∀ (H : Heap) (locs : List Loc), JW D Y ty ad A s.heap M H locs → (¬ (xx6 = (40 : Int32)) ∨ (M q1 17) = (4 : Int32)) → W p l e R s m args below meth c H locs 0 0 Q (F0 m 60 ls []) := by
      intro H locs jw hcc
      rw [if_pos hcc] at hE
      refine lv_iconst (v := 0) hx hb dX10_readsItem_60 (by decide) ?_
      replace hE := j_popB eG5 hE
      try dsimp only at hE
      exact kr _ _ _ _ _ _ (congrArg Prod.fst (Option.some.inj (j_ret eG0 hE))) (congrArg Prod.snd (Option.some.inj (j_ret eG0 hE))) (by decide) jw dX10_readsItem_61
    refine lv_icmp_ne (tgt := 60) hx hb dX10_readsItem_49 (by decide) (fun c7 => B29 _ _ jw (Or.inl c7)) (fun c7 => ?_)
    refine lv_aload_n hx hb dX10_readsItem_52 rfl (lv_at hl 1 rfl) ?_
    refine jg_10_17 jc jw hq1 wd_6_76 dX10_readsItem_53 ?_
    refine lv_iconst (v := 4) hx hb dX10_readsItem_56 (by decide) ?_
    refine lv_icmp_ne (tgt := 62) hx hb dX10_readsItem_57 (by decide) (fun c8 => ?_) (fun c8 => B29 _ _ jw (Or.inr c8))
    rw [if_neg (fun hq => hq.elim (fun hq => (j_absn c7 hq)) (fun hq => (j_abs c8 hq)))] at hE
    refine lv_aload_n hx hb dX10_readsItem_62 rfl (lv_at hl 1 rfl) ?_
    refine lv_dup hx hb dX10_readsItem_63 rfl ?_
    refine jg_10_17 jc jw hq1 wd_6_76 dX10_readsItem_64 ?_
    refine lv_iconst (v := 1) hx hb dX10_readsItem_67 (by decide) ?_
    refine lv_iadd hx hb dX10_readsItem_68 ?_
    refine js_10_17 jc jw hq1 wd_6_76 dX10_readsItem_69 (fun H locs jw => ?_)
    obtain ⟨mm9, emm9, hE⟩ := j_lv hE
    rw [← emm9] at jw
    try dsimp only at hE
    refine lv_aload_n hx hb dX10_readsItem_72 rfl (lv_at hl 1 rfl) ?_
    refine lv_dup hx hb dX10_readsItem_73 rfl ?_
    refine jg_10_16 jc jw hq1 wd_6_75 dX10_readsItem_74 ?_
    refine lv_iconst (v := 1) hx hb dX10_readsItem_77 (by decide) ?_
    refine lv_iadd hx hb dX10_readsItem_78 ?_
    refine js_10_16 jc jw hq1 wd_6_75 dX10_readsItem_79 (fun H locs jw => ?_)
    obtain ⟨mm10, emm10, hE⟩ := j_lv hE
    rw [← emm10] at jw
    try dsimp only at hE
    refine lv_aload_n hx hb dX10_readsItem_82 rfl (lv_at hl 1 rfl) ?_
    obtain ⟨xx11, exx11, hE⟩ := j_bd hG5 hE
    try dsimp only at hE
    refine jc_sz [.ref (ad q1)] [] jc jw hA (c_X10_readsItem_2 hY hq1 (M := mm10) exx11) sd_X10_171 rfl hl.1 (j_hR hRf hRl rfl rfl) (Nat.le_of_ble_eq_true rfl) dX10_readsItem_83 (fun H locs jw hz => ?_)
    have z_12 := hz
    refine lv_topi (fun vv13 evv13 => ?_)
    replace hE := j_lu hE evv13
    try dsimp only at hE
    have zvv13 : vv13 = 0 ∨ vv13 = 1 := by rw [evv13]; exact z_12
    refine lv_istore_n (lv' := [(2, .int vv13), (1, .int vv1), (0, .ref (ad q1))]) hx hb dX10_readsItem_86 rfl hl (by decide) rfl (fun ls hl => ?_)
    obtain ⟨G14, eG14, hG14, hE⟩ := j_ctxB hG5 hE
    have E14_108 : ∀ (vv23 : Int32) (mm24 : JM)  (H : Heap) (locs : List Loc) (ls : Array Slot), G14 (some (vv23, mm24)) = some r → JW D Y ty ad A s.heap mm24 H locs → lv_has ls 3 [(2, .int vv23), (1, .int vv1), (0, .ref (ad q1))] → W p l e R s m args below meth c H locs 0 0 Q (F0 m 108 ls []) := by
      intro vv23 mm24  H locs ls hE jw hl
      replace hE := j_popB eG14 hE
      try dsimp only at hE
      refine lv_iload_n hx hb dX10_readsItem_108 rfl (lv_at hl 0 rfl) ?_
      refine lv_if_ne (tgt := 114) hx hb dX10_readsItem_109 (by decide) (fun c25 => ?_) (fun c25 => ?_)
      · rw [if_neg c25] at hE
        refine lv_aload_n hx hb dX10_readsItem_114 rfl (lv_at hl 2 rfl) ?_
        refine lv_dup hx hb dX10_readsItem_115 rfl ?_
        refine jg_10_16 jc jw hq1 wd_6_75 dX10_readsItem_116 ?_
        refine lv_iconst (v := 1) hx hb dX10_readsItem_119 (by decide) ?_
        refine lv_iadd hx hb dX10_readsItem_120 ?_
        refine js_10_16 jc jw hq1 wd_6_75 dX10_readsItem_121 (fun H locs jw => ?_)
        obtain ⟨mm26, emm26, hE⟩ := j_lv hE
        rw [← emm26] at jw
        try dsimp only at hE
        refine lv_aload_n hx hb dX10_readsItem_124 rfl (lv_at hl 2 rfl) ?_
        refine lv_dup hx hb dX10_readsItem_125 rfl ?_
        refine jg_10_17 jc jw hq1 wd_6_76 dX10_readsItem_126 ?_
        refine lv_iconst (v := 1) hx hb dX10_readsItem_129 (by decide) ?_
        refine lv_isub hx hb dX10_readsItem_130 ?_
        refine js_10_17 jc jw hq1 wd_6_76 dX10_readsItem_131 (fun H locs jw => ?_)
        obtain ⟨mm27, emm27, hE⟩ := j_lv hE
        rw [← emm27] at jw
        try dsimp only at hE
        exact J5 mm27  H locs ls hE jw (lv_sub hl [1, 2] rfl)
      · rw [if_pos c25] at hE
        refine lv_iconst (v := 0) hx hb dX10_readsItem_112 (by decide) ?_
        replace hE := j_popB eG5 hE
        try dsimp only at hE
        exact kr _ _ _ _ _ _ (congrArg Prod.fst (Option.some.inj (j_ret eG0 hE))) (congrArg Prod.snd (Option.some.inj (j_ret eG0 hE))) (by decide) jw dX10_readsItem_113
    have LP14 : ∀ (n : Nat) (vv15 : Int32) (mm16 : JM) (H : Heap) (locs : List Loc) (ls : Array Slot), G14 (lp_X10_readsItem_1 Y q1 (s_X10_readsItem Y 2) n vv15 mm16) = some r → JW D Y ty ad A s.heap mm16 H locs → lv_has ls 3 [(2, .int vv15), (1, .int vv1), (0, .ref (ad q1))] → W p l e R s m args below meth c H locs 0 0 Q (F0 m 87 ls []) := by
      intro n
      induction n with
      | zero => intro vv15 mm16 H locs ls hE jw hl; exact absurd hE (hG14 _)
      | succ n ih =>
        intro vv15 mm16 H locs ls hE jw hl
        rw [lp_X10_readsItem_1] at hE
        refine lv_iload_n hx hb dX10_readsItem_87 rfl (lv_at hl 0 rfl) ?_
        refine lv_if_eq (tgt := 108) hx hb dX10_readsItem_88 (by decide) (fun c17 => ?_) (fun c17 => ?_)
        · rw [if_pos c17] at hE
          exact E14_108 vv15 mm16  H locs ls hE jw (lv_sub hl [0, 1, 2] rfl)
        · rw [if_neg c17] at hE
          refine lv_aload_n hx hb dX10_readsItem_91 rfl (lv_at hl 2 rfl) ?_
          obtain ⟨xx18, exx18, hE⟩ := j_bd hG14 hE
          try dsimp only at hE
          refine jc_vi [] [] jc jw hA hq1 (by decide) rfl (c_X10_here hY hq1 (M := mm16) exx18) sd_X10_161 rfl hl.1 (j_hR hRf hRl rfl rfl) (Nat.le_of_ble_eq_true rfl) dX10_readsItem_92 (fun H locs jw => ?_)
          refine lv_bipush (v := 41) hx hb dX10_readsItem_95 (by decide) ?_
          refine lv_icmp_eq (tgt := 108) hx hb dX10_readsItem_97 (by decide) (fun c19 => ?_) (fun c19 => ?_)
          · rw [if_pos c19] at hE
            exact E14_108 vv15 mm16  H locs ls hE jw (lv_sub hl [0, 1, 2] rfl)
          · rw [if_neg c19] at hE
            refine lv_aload_n hx hb dX10_readsItem_100 rfl (lv_at hl 2 rfl) ?_
            obtain ⟨xx20, exx20, hE⟩ := j_bd hG14 hE
            try dsimp only at hE
            refine jc_sz [.ref (ad q1)] [] jc jw hA (c_X10_readsItem_2 hY hq1 (M := mm16) exx20) sd_X10_171 rfl hl.1 (j_hR hRf hRl rfl rfl) (Nat.le_of_ble_eq_true rfl) dX10_readsItem_101 (fun H locs jw hz => ?_)
            have z_21 := hz
            refine lv_topi (fun vv22 evv22 => ?_)
            replace hE := j_lu hE evv22
            try dsimp only at hE
            have zvv22 : vv22 = 0 ∨ vv22 = 1 := by rw [evv22]; exact z_21
            refine lv_istore_n (lv' := [(2, .int vv22), (1, .int vv1), (0, .ref (ad q1))]) hx hb dX10_readsItem_104 rfl hl (by decide) rfl (fun ls hl => ?_)
            refine lv_goto (tgt := 87) hx hb dX10_readsItem_105 (by decide) ?_
            exact ih vv22 xx20.2 H locs ls hE jw (lv_sub hl [0, 1, 2] rfl)
    exact LP14 j_fuel vv13 xx11.2 H locs ls hE jw (lv_sub hl [0, 1, 2] rfl)
  · rw [if_neg c4] at hE
    refine lv_aload_n hx hb dX10_readsItem_19 rfl (lv_at hl 1 rfl) ?_
    refine lv_aload_n hx hb dX10_readsItem_20 rfl (lv_at hl 1 rfl) ?_
    obtain ⟨xx30, exx30, hE⟩ := j_bd hG5 hE
    try dsimp only at hE
    refine jc_vi [] [.ref (ad q1)] jc jw hA hq1 (by decide) rfl (c_X10_here hY hq1 (M := M) exx30) sd_X10_161 rfl hl.1 (j_hR hRf hRl rfl rfl) (Nat.le_of_ble_eq_true rfl) dX10_readsItem_21 (fun H locs jw => ?_)
    refine lv_bipush (v := 97) hx hb dX10_readsItem_24 (by decide) ?_
    refine lv_isub hx hb dX10_readsItem_26 ?_
    obtain ⟨xx31, exx31, hE⟩ := j_bd hG5 hE
    try dsimp only at hE
    refine jc_vv [.int (xx30 - (97 : Int32))] [] jc jw hA hq1 (by decide) rfl (c_X10_comes hY hq1 (M := M) exx31) sd_X10_165 rfl hl.1 (j_hR hRf hRl rfl rfl) (Nat.le_of_ble_eq_true rfl) dX10_readsItem_27 (fun H locs jw => ?_)
    refine lv_aload_n hx hb dX10_readsItem_30 rfl (lv_at hl 1 rfl) ?_
    refine lv_dup hx hb dX10_readsItem_31 rfl ?_
    refine jg_10_16 jc jw hq1 wd_6_75 dX10_readsItem_32 ?_
    refine lv_iconst (v := 1) hx hb dX10_readsItem_35 (by decide) ?_
    refine lv_iadd hx hb dX10_readsItem_36 ?_
    refine js_10_16 jc jw hq1 wd_6_75 dX10_readsItem_37 (fun H locs jw => ?_)
    obtain ⟨mm32, emm32, hE⟩ := j_lv hE
    rw [← emm32] at jw
    try dsimp only at hE
    refine lv_goto (tgt := 134) hx hb dX10_readsItem_40 (by decide) ?_
    exact J5 mm32  H locs ls hE jw (lv_sub hl [0, 1] rfl)
set_option maxRecDepth 100000 in
set_option maxHeartbeats 4000000 in
theorem c_X10_readsItem_4 {D : va_G} {Y : JY} {ty : Nat → ClassId} {ad : Nat → Nat} {sz : Nat} {l : Launch} {M : JM} (hY : j_ok Y) {q1 : Nat} (hq1 : j_kd Y q1 = 10) {r : Int32 × JM} (hE : s_X10_readsItem Y 4 M q1 = some r) : JMz D Y ty ad sz l yX10_readsItem cX10_readsItem 3 5 112 [.ref (ad q1)] M r.1 r.2 := by
  refine j_ofZ hY (by decide +kernel) (Nat.le_of_ble_eq_true rfl) (fun p e s m below meth c args R Q A hRf hRl hA jc jw kr ls hl => ?_)
  have hx := jc.1
  have hb := jc.2.1
  have hl : lv_has ls 3 [(0, .ref (ad q1))] := hl
  change s_X10_readsItem_b Y (s_X10_readsItem Y 3) M q1 = some r at hE; unfold s_X10_readsItem_b at hE
  obtain ⟨G0, eG0, hG0, hE⟩ := j_F0o hE
  refine lv_aload_n hx hb dX10_readsItem_0 rfl (lv_at hl 0 rfl) ?_
  refine jg_10_18 jc jw hq1 wd_6_77 dX10_readsItem_1 ?_
  refine lv_topi (fun vv1 evv1 => ?_)
  replace hE := j_lu hE evv1
  try dsimp only at hE
  refine lv_istore_n (lv' := [(1, .int vv1), (0, .ref (ad q1))]) hx hb dX10_readsItem_4 rfl hl (by decide) rfl (fun ls hl => ?_)
  refine lv_aload_n hx hb dX10_readsItem_5 rfl (lv_at hl 1 rfl) ?_
  obtain ⟨xx2, exx2, hE⟩ := j_bd hG0 hE
  try dsimp only at hE
  refine jc_vi [] [] jc jw hA hq1 (by decide) rfl (c_X10_here hY hq1 (M := M) exx2) sd_X10_161 rfl hl.1 (j_hR hRf hRl rfl rfl) (Nat.le_of_ble_eq_true rfl) dX10_readsItem_6 (fun H locs jw => ?_)
  refine lv_bipush (v := 97) hx hb dX10_readsItem_9 (by decide) ?_
  refine lv_bipush (v := 122) hx hb dX10_readsItem_11 (by decide) ?_
  refine jc_sz [.int xx2, .int (97 : Int32), .int (122 : Int32)] [] jc jw hA (c_X10_in hY  (M := M) rfl) sd_X10_119 rfl hl.1 (j_hR hRf hRl rfl rfl) (Nat.le_of_ble_eq_true rfl) dX10_readsItem_13 (fun H locs jw hz => ?_)
  have z_3 := hz
  obtain ⟨G5, eG5, hG5, hE⟩ := j_ctxB hG0 hE
  have J5 : ∀ (mm33 : JM)  (H : Heap) (locs : List Loc) (ls : Array Slot), G5 (some (Sum.inl mm33)) = some r → JW D Y ty ad A s.heap mm33 H locs → lv_has ls 3 [(1, .int vv1), (0, .ref (ad q1))] → W p l e R s m args below meth c H locs 0 0 Q (F0 m 134 ls []) := by
    intro mm33  H locs ls hE jw hl
    replace hE := j_popB eG5 hE
    try dsimp only at hE
    refine lv_aload_n hx hb dX10_readsItem_134 rfl (lv_at hl 1 rfl) ?_
    refine lv_iload_n hx hb dX10_readsItem_135 rfl (lv_at hl 0 rfl) ?_
    obtain ⟨xx34, exx34, hE⟩ := j_bd hG0 hE
    try dsimp only at hE
    refine jc_vv [.int vv1] [] jc jw hA hq1 (by decide) rfl (c_X10_repeats hY hq1 (M := mm33) exx34) sd_X10_175 rfl hl.1 (j_hR hRf hRl rfl rfl) (Nat.le_of_ble_eq_true rfl) dX10_readsItem_136 (fun H locs jw => ?_)
    refine lv_iconst (v := 1) hx hb dX10_readsItem_139 (by decide) ?_
    exact kr _ _ _ _ _ _ (congrArg Prod.fst (Option.some.inj (j_ret eG0 hE))) (congrArg Prod.snd (Option.some.inj (j_ret eG0 hE))) (by decide) jw dX10_readsItem_140
  refine lv_if_eq (tgt := 43) hx hb dX10_readsItem_16 (by decide) (fun c4 => ?_) (fun c4 => ?_)
  · rw [if_pos c4] at hE
    refine lv_aload_n hx hb dX10_readsItem_43 rfl (lv_at hl 1 rfl) ?_
    obtain ⟨xx6, exx6, hE⟩ := j_bd hG5 hE
    try dsimp only at hE
    refine jc_vi [] [] jc jw hA hq1 (by decide) rfl (c_X10_here hY hq1 (M := M) exx6) sd_X10_161 rfl hl.1 (j_hR hRf hRl rfl rfl) (Nat.le_of_ble_eq_true rfl) dX10_readsItem_44 (fun H locs jw => ?_)
    refine lv_bipush (v := 40) hx hb dX10_readsItem_47 (by decide) ?_
    have B29 : ∀ (H : Heap) (locs : List Loc), JW D Y ty ad A s.heap M H locs → (¬ (xx6 = (40 : Int32)) ∨ (M q1 17) = (4 : Int32)) → W p l e R s m args below meth c H locs 0 0 Q (F0 m 60 ls []) := by
      intro H locs jw hcc
      rw [if_pos hcc] at hE
      refine lv_iconst (v := 0) hx hb dX10_readsItem_60 (by decide) ?_
      replace hE := j_popB eG5 hE
      try dsimp only at hE
      exact kr _ _ _ _ _ _ (congrArg Prod.fst (Option.some.inj (j_ret eG0 hE))) (congrArg Prod.snd (Option.some.inj (j_ret eG0 hE))) (by decide) jw dX10_readsItem_61
    refine lv_icmp_ne (tgt := 60) hx hb dX10_readsItem_49 (by decide) (fun c7 => B29 _ _ jw (Or.inl c7)) (fun c7 => ?_)
    refine lv_aload_n hx hb dX10_readsItem_52 rfl (lv_at hl 1 rfl) ?_
    refine jg_10_17 jc jw hq1 wd_6_76 dX10_readsItem_53 ?_
    refine lv_iconst (v := 4) hx hb dX10_readsItem_56 (by decide) ?_
    refine lv_icmp_ne (tgt := 62) hx hb dX10_readsItem_57 (by decide) (fun c8 => ?_) (fun c8 => B29 _ _ jw (Or.inr c8))
    rw [if_neg (fun hq => hq.elim (fun hq => (j_absn c7 hq)) (fun hq => (j_abs c8 hq)))] at hE
    refine lv_aload_n hx hb dX10_readsItem_62 rfl (lv_at hl 1 rfl) ?_
    refine lv_dup hx hb dX10_readsItem_63 rfl ?_
    refine jg_10_17 jc jw hq1 wd_6_76 dX10_readsItem_64 ?_
    refine lv_iconst (v := 1) hx hb dX10_readsItem_67 (by decide) ?_
    refine lv_iadd hx hb dX10_readsItem_68 ?_
    refine js_10_17 jc jw hq1 wd_6_76 dX10_readsItem_69 (fun H locs jw => ?_)
    obtain ⟨mm9, emm9, hE⟩ := j_lv hE
    rw [← emm9] at jw
    try dsimp only at hE
    refine lv_aload_n hx hb dX10_readsItem_72 rfl (lv_at hl 1 rfl) ?_
    refine lv_dup hx hb dX10_readsItem_73 rfl ?_
    refine jg_10_16 jc jw hq1 wd_6_75 dX10_readsItem_74 ?_
    refine lv_iconst (v := 1) hx hb dX10_readsItem_77 (by decide) ?_
    refine lv_iadd hx hb dX10_readsItem_78 ?_
    refine js_10_16 jc jw hq1 wd_6_75 dX10_readsItem_79 (fun H locs jw => ?_)
    obtain ⟨mm10, emm10, hE⟩ := j_lv hE
    rw [← emm10] at jw
    try dsimp only at hE
    refine lv_aload_n hx hb dX10_readsItem_82 rfl (lv_at hl 1 rfl) ?_
    obtain ⟨xx11, exx11, hE⟩ := j_bd hG5 hE
    try dsimp only at hE
    refine jc_sz [.ref (ad q1)] [] jc jw hA (c_X10_readsItem_3 hY hq1 (M := mm10) exx11) sd_X10_171 rfl hl.1 (j_hR hRf hRl rfl rfl) (Nat.le_of_ble_eq_true rfl) dX10_readsItem_83 (fun H locs jw hz => ?_)
    have z_12 := hz
    refine lv_topi (fun vv13 evv13 => ?_)
    replace hE := j_lu hE evv13
    try dsimp only at hE
    have zvv13 : vv13 = 0 ∨ vv13 = 1 := by rw [evv13]; exact z_12
    refine lv_istore_n (lv' := [(2, .int vv13), (1, .int vv1), (0, .ref (ad q1))]) hx hb dX10_readsItem_86 rfl hl (by decide) rfl (fun ls hl => ?_)
    obtain ⟨G14, eG14, hG14, hE⟩ := j_ctxB hG5 hE
    have E14_108 : ∀ (vv23 : Int32) (mm24 : JM)  (H : Heap) (locs : List Loc) (ls : Array Slot), G14 (some (vv23, mm24)) = some r → JW D Y ty ad A s.heap mm24 H locs → lv_has ls 3 [(2, .int vv23), (1, .int vv1), (0, .ref (ad q1))] → W p l e R s m args below meth c H locs 0 0 Q (F0 m 108 ls []) := by
      intro vv23 mm24  H locs ls hE jw hl
      replace hE := j_popB eG14 hE
      try dsimp only at hE
      refine lv_iload_n hx hb dX10_readsItem_108 rfl (lv_at hl 0 rfl) ?_
      refine lv_if_ne (tgt := 114) hx hb dX10_readsItem_109 (by decide) (fun c25 => ?_) (fun c25 => ?_)
      · rw [if_neg c25] at hE
        refine lv_aload_n hx hb dX10_readsItem_114 rfl (lv_at hl 2 rfl) ?_
        refine lv_dup hx hb dX10_readsItem_115 rfl ?_
        refine jg_10_16 jc jw hq1 wd_6_75 dX10_readsItem_116 ?_
        refine lv_iconst (v := 1) hx hb dX10_readsItem_119 (by decide) ?_
        refine lv_iadd hx hb dX10_readsItem_120 ?_
        refine js_10_16 jc jw hq1 wd_6_75 dX10_readsItem_121 (fun H locs jw => ?_)
        obtain ⟨mm26, emm26, hE⟩ := j_lv hE
        rw [← emm26] at jw
        try dsimp only at hE
        refine lv_aload_n hx hb dX10_readsItem_124 rfl (lv_at hl 2 rfl) ?_
        refine lv_dup hx hb dX10_readsItem_125 rfl ?_
        refine jg_10_17 jc jw hq1 wd_6_76 dX10_readsItem_126 ?_
        refine lv_iconst (v := 1) hx hb dX10_readsItem_129 (by decide) ?_
        refine lv_isub hx hb dX10_readsItem_130 ?_
        refine js_10_17 jc jw hq1 wd_6_76 dX10_readsItem_131 (fun H locs jw => ?_)
        obtain ⟨mm27, emm27, hE⟩ := j_lv hE
        rw [← emm27] at jw
        try dsimp only at hE
        exact J5 mm27  H locs ls hE jw (lv_sub hl [1, 2] rfl)
      · rw [if_pos c25] at hE
        refine lv_iconst (v := 0) hx hb dX10_readsItem_112 (by decide) ?_
        replace hE := j_popB eG5 hE
        try dsimp only at hE
        exact kr _ _ _ _ _ _ (congrArg Prod.fst (Option.some.inj (j_ret eG0 hE))) (congrArg Prod.snd (Option.some.inj (j_ret eG0 hE))) (by decide) jw dX10_readsItem_113
    have LP14 : ∀ (n : Nat) (vv15 : Int32) (mm16 : JM) (H : Heap) (locs : List Loc) (ls : Array Slot), G14 (lp_X10_readsItem_1 Y q1 (s_X10_readsItem Y 3) n vv15 mm16) = some r → JW D Y ty ad A s.heap mm16 H locs → lv_has ls 3 [(2, .int vv15), (1, .int vv1), (0, .ref (ad q1))] → W p l e R s m args below meth c H locs 0 0 Q (F0 m 87 ls []) := by
      intro n
      induction n with
      | zero => intro vv15 mm16 H locs ls hE jw hl; exact absurd hE (hG14 _)
      | succ n ih =>
        intro vv15 mm16 H locs ls hE jw hl
        rw [lp_X10_readsItem_1] at hE
        refine lv_iload_n hx hb dX10_readsItem_87 rfl (lv_at hl 0 rfl) ?_
        refine lv_if_eq (tgt := 108) hx hb dX10_readsItem_88 (by decide) (fun c17 => ?_) (fun c17 => ?_)
        · rw [if_pos c17] at hE
          exact E14_108 vv15 mm16  H locs ls hE jw (lv_sub hl [0, 1, 2] rfl)
        · rw [if_neg c17] at hE
          refine lv_aload_n hx hb dX10_readsItem_91 rfl (lv_at hl 2 rfl) ?_
          obtain ⟨xx18, exx18, hE⟩ := j_bd hG14 hE
          try dsimp only at hE
          refine jc_vi [] [] jc jw hA hq1 (by decide) rfl (c_X10_here hY hq1 (M := mm16) exx18) sd_X10_161 rfl hl.1 (j_hR hRf hRl rfl rfl) (Nat.le_of_ble_eq_true rfl) dX10_readsItem_92 (fun H locs jw => ?_)
          refine lv_bipush (v := 41) hx hb dX10_readsItem_95 (by decide) ?_
          refine lv_icmp_eq (tgt := 108) hx hb dX10_readsItem_97 (by decide) (fun c19 => ?_) (fun c19 => ?_)
          · rw [if_pos c19] at hE
            exact E14_108 vv15 mm16  H locs ls hE jw (lv_sub hl [0, 1, 2] rfl)
          · rw [if_neg c19] at hE
            refine lv_aload_n hx hb dX10_readsItem_100 rfl (lv_at hl 2 rfl) ?_
            obtain ⟨xx20, exx20, hE⟩ := j_bd hG14 hE
            try dsimp only at hE
            refine jc_sz [.ref (ad q1)] [] jc jw hA (c_X10_readsItem_3 hY hq1 (M := mm16) exx20) sd_X10_171 rfl hl.1 (j_hR hRf hRl rfl rfl) (Nat.le_of_ble_eq_true rfl) dX10_readsItem_101 (fun H locs jw hz => ?_)
            have z_21 := hz
            refine lv_topi (fun vv22 evv22 => ?_)
            replace hE := j_lu hE evv22
            try dsimp only at hE
            have zvv22 : vv22 = 0 ∨ vv22 = 1 := by rw [evv22]; exact z_21
            refine lv_istore_n (lv' := [(2, .int vv22), (1, .int vv1), (0, .ref (ad q1))]) hx hb dX10_readsItem_104 rfl hl (by decide) rfl (fun ls hl => ?_)
            refine lv_goto (tgt := 87) hx hb dX10_readsItem_105 (by decide) ?_
            exact ih vv22 xx20.2 H locs ls hE jw (lv_sub hl [0, 1, 2] rfl)
    exact LP14 j_fuel vv13 xx11.2 H locs ls hE jw (lv_sub hl [0, 1, 2] rfl)
  · rw [if_neg c4] at hE
    refine lv_aload_n hx hb dX10_readsItem_19 rfl (lv_at hl 1 rfl) ?_
    refine lv_aload_n hx hb dX10_readsItem_20 rfl (lv_at hl 1 rfl) ?_
    obtain ⟨xx30, exx30, hE⟩ := j_bd hG5 hE
    try dsimp only at hE
    refine jc_vi [] [.ref (ad q1)] jc jw hA hq1 (by decide) rfl (c_X10_here hY hq1 (M := M) exx30) sd_X10_161 rfl hl.1 (j_hR hRf hRl rfl rfl) (Nat.le_of_ble_eq_true rfl) dX10_readsItem_21 (fun H locs jw => ?_)
    refine lv_bipush (v := 97) hx hb dX10_readsItem_24 (by decide) ?_
    refine lv_isub hx hb dX10_readsItem_26 ?_
    obtain ⟨xx31, exx31, hE⟩ := j_bd hG5 hE
    try dsimp only at hE
    refine jc_vv [.int (xx30 - (97 : Int32))] [] jc jw hA hq1 (by decide) rfl (c_X10_comes hY hq1 (M := M) exx31) sd_X10_165 rfl hl.1 (j_hR hRf hRl rfl rfl) (Nat.le_of_ble_eq_true rfl) dX10_readsItem_27 (fun H locs jw => ?_)
    refine lv_aload_n hx hb dX10_readsItem_30 rfl (lv_at hl 1 rfl) ?_
    refine lv_dup hx hb dX10_readsItem_31 rfl ?_
    refine jg_10_16 jc jw hq1 wd_6_75 dX10_readsItem_32 ?_
    refine lv_iconst (v := 1) hx hb dX10_readsItem_35 (by decide) ?_
    refine lv_iadd hx hb dX10_readsItem_36 ?_
    refine js_10_16 jc jw hq1 wd_6_75 dX10_readsItem_37 (fun H locs jw => ?_)
    obtain ⟨mm32, emm32, hE⟩ := j_lv hE
    rw [← emm32] at jw
    try dsimp only at hE
    refine lv_goto (tgt := 134) hx hb dX10_readsItem_40 (by decide) ?_
    exact J5 mm32  H locs ls hE jw (lv_sub hl [0, 1] rfl)
set_option maxRecDepth 100000 in
set_option maxHeartbeats 4000000 in
theorem c_X10_readsItem_5 {D : va_G} {Y : JY} {ty : Nat → ClassId} {ad : Nat → Nat} {sz : Nat} {l : Launch} {M : JM} (hY : j_ok Y) {q1 : Nat} (hq1 : j_kd Y q1 = 10) {r : Int32 × JM} (hE : s_X10_readsItem Y 5 M q1 = some r) : JMz D Y ty ad sz l yX10_readsItem cX10_readsItem 3 6 134 [.ref (ad q1)] M r.1 r.2 := by
  refine j_ofZ hY (by decide +kernel) (Nat.le_of_ble_eq_true rfl) (fun p e s m below meth c args R Q A hRf hRl hA jc jw kr ls hl => ?_)
  have hx := jc.1
  have hb := jc.2.1
  have hl : lv_has ls 3 [(0, .ref (ad q1))] := hl
  change s_X10_readsItem_b Y (s_X10_readsItem Y 4) M q1 = some r at hE; unfold s_X10_readsItem_b at hE
  obtain ⟨G0, eG0, hG0, hE⟩ := j_F0o hE
  refine lv_aload_n hx hb dX10_readsItem_0 rfl (lv_at hl 0 rfl) ?_
  refine jg_10_18 jc jw hq1 wd_6_77 dX10_readsItem_1 ?_
  refine lv_topi (fun vv1 evv1 => ?_)
  replace hE := j_lu hE evv1
  try dsimp only at hE
  refine lv_istore_n (lv' := [(1, .int vv1), (0, .ref (ad q1))]) hx hb dX10_readsItem_4 rfl hl (by decide) rfl (fun ls hl => ?_)
  refine lv_aload_n hx hb dX10_readsItem_5 rfl (lv_at hl 1 rfl) ?_
  obtain ⟨xx2, exx2, hE⟩ := j_bd hG0 hE
  try dsimp only at hE
  refine jc_vi [] [] jc jw hA hq1 (by decide) rfl (c_X10_here hY hq1 (M := M) exx2) sd_X10_161 rfl hl.1 (j_hR hRf hRl rfl rfl) (Nat.le_of_ble_eq_true rfl) dX10_readsItem_6 (fun H locs jw => ?_)
  refine lv_bipush (v := 97) hx hb dX10_readsItem_9 (by decide) ?_
  refine lv_bipush (v := 122) hx hb dX10_readsItem_11 (by decide) ?_
  refine jc_sz [.int xx2, .int (97 : Int32), .int (122 : Int32)] [] jc jw hA (c_X10_in hY  (M := M) rfl) sd_X10_119 rfl hl.1 (j_hR hRf hRl rfl rfl) (Nat.le_of_ble_eq_true rfl) dX10_readsItem_13 (fun H locs jw hz => ?_)
  have z_3 := hz
  obtain ⟨G5, eG5, hG5, hE⟩ := j_ctxB hG0 hE
  have J5 : ∀ (mm33 : JM)  (H : Heap) (locs : List Loc) (ls : Array Slot), G5 (some (Sum.inl mm33)) = some r → JW D Y ty ad A s.heap mm33 H locs → lv_has ls 3 [(1, .int vv1), (0, .ref (ad q1))] → W p l e R s m args below meth c H locs 0 0 Q (F0 m 134 ls []) := by
    intro mm33  H locs ls hE jw hl
    replace hE := j_popB eG5 hE
    try dsimp only at hE
    refine lv_aload_n hx hb dX10_readsItem_134 rfl (lv_at hl 1 rfl) ?_
    refine lv_iload_n hx hb dX10_readsItem_135 rfl (lv_at hl 0 rfl) ?_
    obtain ⟨xx34, exx34, hE⟩ := j_bd hG0 hE
    try dsimp only at hE
    refine jc_vv [.int vv1] [] jc jw hA hq1 (by decide) rfl (c_X10_repeats hY hq1 (M := mm33) exx34) sd_X10_175 rfl hl.1 (j_hR hRf hRl rfl rfl) (Nat.le_of_ble_eq_true rfl) dX10_readsItem_136 (fun H locs jw => ?_)
    refine lv_iconst (v := 1) hx hb dX10_readsItem_139 (by decide) ?_
    exact kr _ _ _ _ _ _ (congrArg Prod.fst (Option.some.inj (j_ret eG0 hE))) (congrArg Prod.snd (Option.some.inj (j_ret eG0 hE))) (by decide) jw dX10_readsItem_140
  refine lv_if_eq (tgt := 43) hx hb dX10_readsItem_16 (by decide) (fun c4 => ?_) (fun c4 => ?_)
  · rw [if_pos c4] at hE
    refine lv_aload_n hx hb dX10_readsItem_43 rfl (lv_at hl 1 rfl) ?_
    obtain ⟨xx6, exx6, hE⟩ := j_bd hG5 hE
    try dsimp only at hE
    refine jc_vi [] [] jc jw hA hq1 (by decide) rfl (c_X10_here hY hq1 (M := M) exx6) sd_X10_161 rfl hl.1 (j_hR hRf hRl rfl rfl) (Nat.le_of_ble_eq_true rfl) dX10_readsItem_44 (fun H locs jw => ?_)
    refine lv_bipush (v := 40) hx hb dX10_readsItem_47 (by decide) ?_
    have B29 : ∀ (H : Heap) (locs : List Loc), JW D Y ty ad A s.heap M H locs → (¬ (xx6 = (40 : Int32)) ∨ (M q1 17) = (4 : Int32)) → W p l e R s m args below meth c H locs 0 0 Q (F0 m 60 ls []) := by
      intro H locs jw hcc
      rw [if_pos hcc] at hE
      refine lv_iconst (v := 0) hx hb dX10_readsItem_60 (by decide) ?_
      replace hE := j_popB eG5 hE
      try dsimp only at hE
      exact kr _ _ _ _ _ _ (congrArg Prod.fst (Option.some.inj (j_ret eG0 hE))) (congrArg Prod.snd (Option.some.inj (j_ret eG0 hE))) (by decide) jw dX10_readsItem_61
    refine lv_icmp_ne (tgt := 60) hx hb dX10_readsItem_49 (by decide) (fun c7 => B29 _ _ jw (Or.inl c7)) (fun c7 => ?_)
    refine lv_aload_n hx hb dX10_readsItem_52 rfl (lv_at hl 1 rfl) ?_
    refine jg_10_17 jc jw hq1 wd_6_76 dX10_readsItem_53 ?_
    refine lv_iconst (v := 4) hx hb dX10_readsItem_56 (by decide) ?_
    refine lv_icmp_ne (tgt := 62) hx hb dX10_readsItem_57 (by decide) (fun c8 => ?_) (fun c8 => B29 _ _ jw (Or.inr c8))
    rw [if_neg (fun hq => hq.elim (fun hq => (j_absn c7 hq)) (fun hq => (j_abs c8 hq)))] at hE
    refine lv_aload_n hx hb dX10_readsItem_62 rfl (lv_at hl 1 rfl) ?_
    refine lv_dup hx hb dX10_readsItem_63 rfl ?_
    refine jg_10_17 jc jw hq1 wd_6_76 dX10_readsItem_64 ?_
    refine lv_iconst (v := 1) hx hb dX10_readsItem_67 (by decide) ?_
    refine lv_iadd hx hb dX10_readsItem_68 ?_
    refine js_10_17 jc jw hq1 wd_6_76 dX10_readsItem_69 (fun H locs jw => ?_)
    obtain ⟨mm9, emm9, hE⟩ := j_lv hE
    rw [← emm9] at jw
    try dsimp only at hE
    refine lv_aload_n hx hb dX10_readsItem_72 rfl (lv_at hl 1 rfl) ?_
    refine lv_dup hx hb dX10_readsItem_73 rfl ?_
    refine jg_10_16 jc jw hq1 wd_6_75 dX10_readsItem_74 ?_
    refine lv_iconst (v := 1) hx hb dX10_readsItem_77 (by decide) ?_
    refine lv_iadd hx hb dX10_readsItem_78 ?_
    refine js_10_16 jc jw hq1 wd_6_75 dX10_readsItem_79 (fun H locs jw => ?_)
    obtain ⟨mm10, emm10, hE⟩ := j_lv hE
    rw [← emm10] at jw
    try dsimp only at hE
    refine lv_aload_n hx hb dX10_readsItem_82 rfl (lv_at hl 1 rfl) ?_
    obtain ⟨xx11, exx11, hE⟩ := j_bd hG5 hE
    try dsimp only at hE
    refine jc_sz [.ref (ad q1)] [] jc jw hA (c_X10_readsItem_4 hY hq1 (M := mm10) exx11) sd_X10_171 rfl hl.1 (j_hR hRf hRl rfl rfl) (Nat.le_of_ble_eq_true rfl) dX10_readsItem_83 (fun H locs jw hz => ?_)
    have z_12 := hz
    refine lv_topi (fun vv13 evv13 => ?_)
    replace hE := j_lu hE evv13
    try dsimp only at hE
    have zvv13 : vv13 = 0 ∨ vv13 = 1 := by rw [evv13]; exact z_12
    refine lv_istore_n (lv' := [(2, .int vv13), (1, .int vv1), (0, .ref (ad q1))]) hx hb dX10_readsItem_86 rfl hl (by decide) rfl (fun ls hl => ?_)
    obtain ⟨G14, eG14, hG14, hE⟩ := j_ctxB hG5 hE
    have E14_108 : ∀ (vv23 : Int32) (mm24 : JM)  (H : Heap) (locs : List Loc) (ls : Array Slot), G14 (some (vv23, mm24)) = some r → JW D Y ty ad A s.heap mm24 H locs → lv_has ls 3 [(2, .int vv23), (1, .int vv1), (0, .ref (ad q1))] → W p l e R s m args below meth c H locs 0 0 Q (F0 m 108 ls []) := by
      intro vv23 mm24  H locs ls hE jw hl
      replace hE := j_popB eG14 hE
      try dsimp only at hE
      refine lv_iload_n hx hb dX10_readsItem_108 rfl (lv_at hl 0 rfl) ?_
      refine lv_if_ne (tgt := 114) hx hb dX10_readsItem_109 (by decide) (fun c25 => ?_) (fun c25 => ?_)
      · rw [if_neg c25] at hE
        refine lv_aload_n hx hb dX10_readsItem_114 rfl (lv_at hl 2 rfl) ?_
        refine lv_dup hx hb dX10_readsItem_115 rfl ?_
        refine jg_10_16 jc jw hq1 wd_6_75 dX10_readsItem_116 ?_
        refine lv_iconst (v := 1) hx hb dX10_readsItem_119 (by decide) ?_
        refine lv_iadd hx hb dX10_readsItem_120 ?_
        refine js_10_16 jc jw hq1 wd_6_75 dX10_readsItem_121 (fun H locs jw => ?_)
        obtain ⟨mm26, emm26, hE⟩ := j_lv hE
        rw [← emm26] at jw
        try dsimp only at hE
        refine lv_aload_n hx hb dX10_readsItem_124 rfl (lv_at hl 2 rfl) ?_
        refine lv_dup hx hb dX10_readsItem_125 rfl ?_
        refine jg_10_17 jc jw hq1 wd_6_76 dX10_readsItem_126 ?_
        refine lv_iconst (v := 1) hx hb dX10_readsItem_129 (by decide) ?_
        refine lv_isub hx hb dX10_readsItem_130 ?_
        refine js_10_17 jc jw hq1 wd_6_76 dX10_readsItem_131 (fun H locs jw => ?_)
        obtain ⟨mm27, emm27, hE⟩ := j_lv hE
        rw [← emm27] at jw
        try dsimp only at hE
        exact J5 mm27  H locs ls hE jw (lv_sub hl [1, 2] rfl)
      · rw [if_pos c25] at hE
        refine lv_iconst (v := 0) hx hb dX10_readsItem_112 (by decide) ?_
        replace hE := j_popB eG5 hE
        try dsimp only at hE
        exact kr _ _ _ _ _ _ (congrArg Prod.fst (Option.some.inj (j_ret eG0 hE))) (congrArg Prod.snd (Option.some.inj (j_ret eG0 hE))) (by decide) jw dX10_readsItem_113
    have LP14 : ∀ (n : Nat) (vv15 : Int32) (mm16 : JM) (H : Heap) (locs : List Loc) (ls : Array Slot), G14 (lp_X10_readsItem_1 Y q1 (s_X10_readsItem Y 4) n vv15 mm16) = some r → JW D Y ty ad A s.heap mm16 H locs → lv_has ls 3 [(2, .int vv15), (1, .int vv1), (0, .ref (ad q1))] → W p l e R s m args below meth c H locs 0 0 Q (F0 m 87 ls []) := by
      intro n
      induction n with
      | zero => intro vv15 mm16 H locs ls hE jw hl; exact absurd hE (hG14 _)
      | succ n ih =>
        intro vv15 mm16 H locs ls hE jw hl
        rw [lp_X10_readsItem_1] at hE
        refine lv_iload_n hx hb dX10_readsItem_87 rfl (lv_at hl 0 rfl) ?_
        refine lv_if_eq (tgt := 108) hx hb dX10_readsItem_88 (by decide) (fun c17 => ?_) (fun c17 => ?_)
        · rw [if_pos c17] at hE
          exact E14_108 vv15 mm16  H locs ls hE jw (lv_sub hl [0, 1, 2] rfl)
        · rw [if_neg c17] at hE
          refine lv_aload_n hx hb dX10_readsItem_91 rfl (lv_at hl 2 rfl) ?_
          obtain ⟨xx18, exx18, hE⟩ := j_bd hG14 hE
          try dsimp only at hE
          refine jc_vi [] [] jc jw hA hq1 (by decide) rfl (c_X10_here hY hq1 (M := mm16) exx18) sd_X10_161 rfl hl.1 (j_hR hRf hRl rfl rfl) (Nat.le_of_ble_eq_true rfl) dX10_readsItem_92 (fun H locs jw => ?_)
          refine lv_bipush (v := 41) hx hb dX10_readsItem_95 (by decide) ?_
          refine lv_icmp_eq (tgt := 108) hx hb dX10_readsItem_97 (by decide) (fun c19 => ?_) (fun c19 => ?_)
          · rw [if_pos c19] at hE
            exact E14_108 vv15 mm16  H locs ls hE jw (lv_sub hl [0, 1, 2] rfl)
          · rw [if_neg c19] at hE
            refine lv_aload_n hx hb dX10_readsItem_100 rfl (lv_at hl 2 rfl) ?_
            obtain ⟨xx20, exx20, hE⟩ := j_bd hG14 hE
            try dsimp only at hE
            refine jc_sz [.ref (ad q1)] [] jc jw hA (c_X10_readsItem_4 hY hq1 (M := mm16) exx20) sd_X10_171 rfl hl.1 (j_hR hRf hRl rfl rfl) (Nat.le_of_ble_eq_true rfl) dX10_readsItem_101 (fun H locs jw hz => ?_)
            have z_21 := hz
            refine lv_topi (fun vv22 evv22 => ?_)
            replace hE := j_lu hE evv22
            try dsimp only at hE
            have zvv22 : vv22 = 0 ∨ vv22 = 1 := by rw [evv22]; exact z_21
            refine lv_istore_n (lv' := [(2, .int vv22), (1, .int vv1), (0, .ref (ad q1))]) hx hb dX10_readsItem_104 rfl hl (by decide) rfl (fun ls hl => ?_)
            refine lv_goto (tgt := 87) hx hb dX10_readsItem_105 (by decide) ?_
            exact ih vv22 xx20.2 H locs ls hE jw (lv_sub hl [0, 1, 2] rfl)
    exact LP14 j_fuel vv13 xx11.2 H locs ls hE jw (lv_sub hl [0, 1, 2] rfl)
  · rw [if_neg c4] at hE
    refine lv_aload_n hx hb dX10_readsItem_19 rfl (lv_at hl 1 rfl) ?_
    refine lv_aload_n hx hb dX10_readsItem_20 rfl (lv_at hl 1 rfl) ?_
    obtain ⟨xx30, exx30, hE⟩ := j_bd hG5 hE
    try dsimp only at hE
    refine jc_vi [] [.ref (ad q1)] jc jw hA hq1 (by decide) rfl (c_X10_here hY hq1 (M := M) exx30) sd_X10_161 rfl hl.1 (j_hR hRf hRl rfl rfl) (Nat.le_of_ble_eq_true rfl) dX10_readsItem_21 (fun H locs jw => ?_)
    refine lv_bipush (v := 97) hx hb dX10_readsItem_24 (by decide) ?_
    refine lv_isub hx hb dX10_readsItem_26 ?_
    obtain ⟨xx31, exx31, hE⟩ := j_bd hG5 hE
    try dsimp only at hE
    refine jc_vv [.int (xx30 - (97 : Int32))] [] jc jw hA hq1 (by decide) rfl (c_X10_comes hY hq1 (M := M) exx31) sd_X10_165 rfl hl.1 (j_hR hRf hRl rfl rfl) (Nat.le_of_ble_eq_true rfl) dX10_readsItem_27 (fun H locs jw => ?_)
    refine lv_aload_n hx hb dX10_readsItem_30 rfl (lv_at hl 1 rfl) ?_
    refine lv_dup hx hb dX10_readsItem_31 rfl ?_
    refine jg_10_16 jc jw hq1 wd_6_75 dX10_readsItem_32 ?_
    refine lv_iconst (v := 1) hx hb dX10_readsItem_35 (by decide) ?_
    refine lv_iadd hx hb dX10_readsItem_36 ?_
    refine js_10_16 jc jw hq1 wd_6_75 dX10_readsItem_37 (fun H locs jw => ?_)
    obtain ⟨mm32, emm32, hE⟩ := j_lv hE
    rw [← emm32] at jw
    try dsimp only at hE
    refine lv_goto (tgt := 134) hx hb dX10_readsItem_40 (by decide) ?_
    exact J5 mm32  H locs ls hE jw (lv_sub hl [0, 1] rfl)
def s_X10_feed (Y : JY) (M : JM) (o : Nat) (p1 : Int32) : Option (Int32 × JM) := if (M o 6) = (50 : Int32) then (lt_ (s_X10_fails Y M o (1 : Int32)) fun xx2 => some (xx2.1, xx2.2)) else (if j_g (M o 6) (j_ln Y (j_rf Y o 5)) then (lt_ (j_up M (j_rf Y o 5) (M o 6).toNatClampNeg (vp_nar .char p1)) fun mm5 => lt_ (j_up mm5 o 6 ((mm5 o 6) + (1 : Int32))) fun mm6 => lt_ (s_X10_done Y mm6 o (mm6 o 6)) fun xx7 => some (xx7.1, xx7.2)) else none)
set_option maxRecDepth 100000 in
set_option maxHeartbeats 4000000 in
theorem c_X10_feed {D : va_G} {Y : JY} {ty : Nat → ClassId} {ad : Nat → Nat} {sz : Nat} {l : Launch} {M : JM} (hY : j_ok Y) {o : Nat} {p1 : Int32} (ho : j_kd Y o = 10) {r : Int32 × JM} (hE : s_X10_feed Y M o p1 = some r) : JMi D Y ty ad sz l yX10_feed cX10_feed 2 (some .int) 1 21 [.ref (ad o), .int p1] M r.1 r.2 := by
  refine j_ofI hY (by decide +kernel) (Nat.le_of_ble_eq_true rfl) (fun p e s m below meth c args R Q A hRf hRl hA jc jw kr ls hl => ?_)
  have hx := jc.1
  have hb := jc.2.1
  have hl : lv_has ls 2 [(0, .ref (ad o)), (1, .int p1)] := hl
  unfold s_X10_feed at hE
  obtain ⟨G0, eG0, hG0, hE⟩ := j_F0o hE
  refine lv_aload_n hx hb dX10_feed_0 rfl (lv_at hl 0 rfl) ?_
  refine jg_10_6 jc jw ho wd_6_65 dX10_feed_1 ?_
  refine lv_bipush (v := 50) hx hb dX10_feed_4 (by decide) ?_
  refine lv_icmp_ne (tgt := 15) hx hb dX10_feed_6 (by decide) (fun c1 => ?_) (fun c1 => ?_)
  · rw [if_neg c1] at hE
    refine lv_aload_n hx hb dX10_feed_15 rfl (lv_at hl 0 rfl) ?_
    refine jg_10_5 jc jw ho wd_6_64 dX10_feed_16 ?_
    have k3 := j_sub hY ho 5 (f := 102) rfl (by decide) (by decide) (by decide)
    refine lv_aload_n hx hb dX10_feed_19 rfl (lv_at hl 0 rfl) ?_
    refine jg_10_6 jc jw ho wd_6_65 dX10_feed_20 ?_
    refine lv_iload_n hx hb dX10_feed_23 rfl (lv_at hl 1 rfl) ?_
    rcases Classical.em (j_g (M o 6) (j_ln Y (j_rf Y o 5))) with g4 | g4
    case inr => rw [if_neg g4] at hE; exact absurd hE (hG0 _)
    rw [if_pos g4] at hE
    refine jr_cast jc jw k3 (j_g_in g4) dX10_feed_24 (fun H locs jw => ?_)
    obtain ⟨mm5, emm5, hE⟩ := j_lv hE
    rw [← emm5] at jw
    try dsimp only at hE
    refine lv_aload_n hx hb dX10_feed_25 rfl (lv_at hl 0 rfl) ?_
    refine lv_dup hx hb dX10_feed_26 rfl ?_
    refine jg_10_6 jc jw ho wd_6_65 dX10_feed_27 ?_
    refine lv_iconst (v := 1) hx hb dX10_feed_30 (by decide) ?_
    refine lv_iadd hx hb dX10_feed_31 ?_
    refine js_10_6 jc jw ho wd_6_65 dX10_feed_32 (fun H locs jw => ?_)
    obtain ⟨mm6, emm6, hE⟩ := j_lv hE
    rw [← emm6] at jw
    try dsimp only at hE
    refine lv_aload_n hx hb dX10_feed_35 rfl (lv_at hl 0 rfl) ?_
    refine lv_aload_n hx hb dX10_feed_36 rfl (lv_at hl 0 rfl) ?_
    refine jg_10_6 jc jw ho wd_6_65 dX10_feed_37 ?_
    obtain ⟨xx7, exx7, hE⟩ := j_lv hE
    try dsimp only at hE
    refine jc_vi [.int (mm6 o 6)] [] jc jw hA ho (by decide) rfl (c_X10_done hY ho (M := mm6) exx7.symm) sd_X10_138 rfl hl.1 (j_hR hRf hRl rfl rfl) (Nat.le_of_ble_eq_true rfl) dX10_feed_40 (fun H locs jw => ?_)
    exact kr _ _ _ _ _ _ (congrArg Prod.fst (Option.some.inj (j_ret eG0 hE))) (congrArg Prod.snd (Option.some.inj (j_ret eG0 hE))) jw dX10_feed_43
  · rw [if_pos c1] at hE
    refine lv_aload_n hx hb dX10_feed_9 rfl (lv_at hl 0 rfl) ?_
    refine lv_iconst (v := 1) hx hb dX10_feed_10 (by decide) ?_
    obtain ⟨xx2, exx2, hE⟩ := j_lv hE
    try dsimp only at hE
    refine jc_vi [.int (1 : Int32)] [] jc jw hA ho (by decide) rfl (c_X10_fails hY ho (M := M) exx2.symm) sd_X10_130 rfl hl.1 (j_hR hRf hRl rfl rfl) (Nat.le_of_ble_eq_true rfl) dX10_feed_11 (fun H locs jw => ?_)
    exact kr _ _ _ _ _ _ (congrArg Prod.fst (Option.some.inj (j_ret eG0 hE))) (congrArg Prod.snd (Option.some.inj (j_ret eG0 hE))) jw dX10_feed_14
def lp_X10_readDocument_1 (Y : JY) (o : Nat) (n : Nat) (vv9 : Int32) (mm10 : JM) : Option (Int32 × JM) := match n with
  | 0 => none
  | n + 1 => if vv9 = 0 ∨ (mm10 o 6) ≤ (mm10 o 16) then (some (vv9, mm10)) else ((s_X10_readsItem Y 5 mm10 o).bind fun xx13 => lt_ xx13.1 fun vv15 => lp_X10_readDocument_1 Y o n vv15 xx13.2)
def s_X10_readDocument (Y : JY) (M : JM) (o : Nat) (p1 : Int32) : Option (Int32 × JM) := if (s_X10_isRegister Y M p1) = 0 then (lt_ (j_up M o 6 (0 : Int32)) fun mm3 => lt_ (s_X10_fails Y mm3 o (1 : Int32)) fun xx4 => some (xx4.1, xx4.2)) else (lt_ (j_up M o 16 (0 : Int32)) fun mm5 => lt_ (j_up mm5 o 17 (0 : Int32)) fun mm6 => lt_ (j_up mm6 o 18 (0 : Int32)) fun mm7 => (lp_X10_readDocument_1 Y o j_fuel (1 : Int32) mm7).bind fun xx28 => lt_ (j_up xx28.2 o 6 (0 : Int32)) fun mm19 => if xx28.1 = 0 then (lt_ (s_X10_done Y mm19 o ((-100 : Int32) - (mm19 o 16))) fun xx21 => some (xx21.1, xx21.2)) else (if (mm19 o 18) ≤ (24 : Int32) then ((s_X10_remembers Y mm19 o p1).bind fun xx23 => (s_X10_holds Y xx23 o p1 (j_rf Y o 15) (xx23 o 18)).bind fun xx25 => lt_ (s_X10_done Y xx25 o (xx25 o 18)) fun xx26 => some (xx26.1, xx26.2)) else (lt_ (s_X10_fails Y mm19 o (2 : Int32)) fun xx27 => some (xx27.1, xx27.2))))
set_option maxRecDepth 100000 in
set_option maxHeartbeats 4000000 in
theorem c_X10_readDocument {D : va_G} {Y : JY} {ty : Nat → ClassId} {ad : Nat → Nat} {sz : Nat} {l : Launch} {M : JM} (hY : j_ok Y) {o : Nat} {p1 : Int32} (ho : j_kd Y o = 10) {r : Int32 × JM} (hE : s_X10_readDocument Y M o p1 = some r) : JMi D Y ty ad sz l yX10_readDocument cX10_readDocument 3 (some .int) 7 156 [.ref (ad o), .int p1] M r.1 r.2 := by
  refine j_ofI hY (by decide +kernel) (Nat.le_of_ble_eq_true rfl) (fun p e s m below meth c args R Q A hRf hRl hA jc jw kr ls hl => ?_)
  have hx := jc.1
  have hb := jc.2.1
  have hl : lv_has ls 3 [(0, .ref (ad o)), (1, .int p1)] := hl
  unfold s_X10_readDocument at hE
  obtain ⟨G0, eG0, hG0, hE⟩ := j_F0o hE
  refine lv_iload_n hx hb dX10_readDocument_0 rfl (lv_at hl 1 rfl) ?_
  refine jc_sz [.int p1] [] jc jw hA (c_X10_isRegister hY  (M := M) rfl) sd_X10_126 rfl hl.1 (j_hR hRf hRl rfl rfl) (Nat.le_of_ble_eq_true rfl) dX10_readDocument_1 (fun H locs jw hz => ?_)
  have z_1 := hz
  refine lv_if_ne (tgt := 18) hx hb dX10_readDocument_4 (by decide) (fun c2 => ?_) (fun c2 => ?_)
  · rw [if_neg c2] at hE
    refine lv_aload_n hx hb dX10_readDocument_18 rfl (lv_at hl 0 rfl) ?_
    refine lv_iconst (v := 0) hx hb dX10_readDocument_19 (by decide) ?_
    refine js_10_16 jc jw ho wd_6_75 dX10_readDocument_20 (fun H locs jw => ?_)
    obtain ⟨mm5, emm5, hE⟩ := j_lv hE
    rw [← emm5] at jw
    try dsimp only at hE
    refine lv_aload_n hx hb dX10_readDocument_23 rfl (lv_at hl 0 rfl) ?_
    refine lv_iconst (v := 0) hx hb dX10_readDocument_24 (by decide) ?_
    refine js_10_17 jc jw ho wd_6_76 dX10_readDocument_25 (fun H locs jw => ?_)
    obtain ⟨mm6, emm6, hE⟩ := j_lv hE
    rw [← emm6] at jw
    try dsimp only at hE
    refine lv_aload_n hx hb dX10_readDocument_28 rfl (lv_at hl 0 rfl) ?_
    refine lv_iconst (v := 0) hx hb dX10_readDocument_29 (by decide) ?_
    refine js_10_18 jc jw ho wd_6_77 dX10_readDocument_30 (fun H locs jw => ?_)
    obtain ⟨mm7, emm7, hE⟩ := j_lv hE
    rw [← emm7] at jw
    try dsimp only at hE
    refine lv_iconst (v := 1) hx hb dX10_readDocument_33 (by decide) ?_
    refine lv_istore_n (lv' := [(2, .int (1 : Int32)), (0, .ref (ad o)), (1, .int p1)]) hx hb dX10_readDocument_34 rfl hl (by decide) rfl (fun ls hl => ?_)
    obtain ⟨G8, eG8, hG8, hE⟩ := j_ctxB hG0 hE
    have E8_58 : ∀ (vv17 : Int32) (mm18 : JM)  (H : Heap) (locs : List Loc) (ls : Array Slot), G8 (some (vv17, mm18)) = some r → JW D Y ty ad A s.heap mm18 H locs → lv_has ls 3 [(2, .int vv17), (0, .ref (ad o)), (1, .int p1)] → W p l e R s m args below meth c H locs 0 0 Q (F0 m 58 ls []) := by
      intro vv17 mm18  H locs ls hE jw hl
      replace hE := j_popB eG8 hE
      try dsimp only at hE
      refine lv_aload_n hx hb dX10_readDocument_58 rfl (lv_at hl 1 rfl) ?_
      refine lv_iconst (v := 0) hx hb dX10_readDocument_59 (by decide) ?_
      refine js_10_6 jc jw ho wd_6_65 dX10_readDocument_60 (fun H locs jw => ?_)
      obtain ⟨mm19, emm19, hE⟩ := j_lv hE
      rw [← emm19] at jw
      try dsimp only at hE
      refine lv_iload_n hx hb dX10_readDocument_63 rfl (lv_at hl 0 rfl) ?_
      refine lv_if_ne (tgt := 79) hx hb dX10_readDocument_64 (by decide) (fun c20 => ?_) (fun c20 => ?_)
      · rw [if_neg c20] at hE
        refine lv_aload_n hx hb dX10_readDocument_79 rfl (lv_at hl 1 rfl) ?_
        refine jg_10_18 jc jw ho wd_6_77 dX10_readDocument_80 ?_
        refine lv_bipush (v := 24) hx hb dX10_readDocument_83 (by decide) ?_
        refine lv_icmp_le (tgt := 94) hx hb dX10_readDocument_85 (by decide) (fun c22 => ?_) (fun c22 => ?_)
        · rw [if_pos c22] at hE
          refine lv_aload_n hx hb dX10_readDocument_94 rfl (lv_at hl 1 rfl) ?_
          refine lv_iload_n hx hb dX10_readDocument_95 rfl (lv_at hl 2 rfl) ?_
          obtain ⟨xx23, exx23, hE⟩ := j_bd hG0 hE
          try dsimp only at hE
          refine jc_vv [.int p1] [] jc jw hA ho (by decide) rfl (c_X10_remembers hY ho (M := mm19) exx23) sd_X10_134 rfl hl.1 (j_hR hRf hRl rfl rfl) (Nat.le_of_ble_eq_true rfl) dX10_readDocument_96 (fun H locs jw => ?_)
          refine lv_aload_n hx hb dX10_readDocument_99 rfl (lv_at hl 1 rfl) ?_
          refine lv_iload_n hx hb dX10_readDocument_100 rfl (lv_at hl 2 rfl) ?_
          refine lv_aload_n hx hb dX10_readDocument_101 rfl (lv_at hl 1 rfl) ?_
          refine jg_10_15 jc jw ho wd_6_74 dX10_readDocument_102 ?_
          have k24 := j_sub hY ho 15 (f := 100) rfl (by decide) (by decide) (by decide)
          refine lv_aload_n hx hb dX10_readDocument_105 rfl (lv_at hl 1 rfl) ?_
          refine jg_10_18 jc jw ho wd_6_77 dX10_readDocument_106 ?_
          obtain ⟨xx25, exx25, hE⟩ := j_bd hG0 hE
          try dsimp only at hE
          refine jc_vv [.int p1, .ref (ad (j_rf Y o 15)), .int (xx23 o 18)] [] jc jw hA ho (by decide) rfl (c_X10_holds hY ho k24 (M := xx23) exx25) sd_X10_141 rfl hl.1 (j_hR hRf hRl rfl rfl) (Nat.le_of_ble_eq_true rfl) dX10_readDocument_109 (fun H locs jw => ?_)
          refine lv_aload_n hx hb dX10_readDocument_112 rfl (lv_at hl 1 rfl) ?_
          refine lv_aload_n hx hb dX10_readDocument_113 rfl (lv_at hl 1 rfl) ?_
          refine jg_10_18 jc jw ho wd_6_77 dX10_readDocument_114 ?_
          obtain ⟨xx26, exx26, hE⟩ := j_lv hE
          try dsimp only at hE
          refine jc_vi [.int (xx25 o 18)] [] jc jw hA ho (by decide) rfl (c_X10_done hY ho (M := xx25) exx26.symm) sd_X10_138 rfl hl.1 (j_hR hRf hRl rfl rfl) (Nat.le_of_ble_eq_true rfl) dX10_readDocument_117 (fun H locs jw => ?_)
          exact kr _ _ _ _ _ _ (congrArg Prod.fst (Option.some.inj (j_ret eG0 hE))) (congrArg Prod.snd (Option.some.inj (j_ret eG0 hE))) jw dX10_readDocument_120
        · rw [if_neg c22] at hE
          refine lv_aload_n hx hb dX10_readDocument_88 rfl (lv_at hl 1 rfl) ?_
          refine lv_iconst (v := 2) hx hb dX10_readDocument_89 (by decide) ?_
          obtain ⟨xx27, exx27, hE⟩ := j_lv hE
          try dsimp only at hE
          refine jc_vi [.int (2 : Int32)] [] jc jw hA ho (by decide) rfl (c_X10_fails hY ho (M := mm19) exx27.symm) sd_X10_130 rfl hl.1 (j_hR hRf hRl rfl rfl) (Nat.le_of_ble_eq_true rfl) dX10_readDocument_90 (fun H locs jw => ?_)
          exact kr _ _ _ _ _ _ (congrArg Prod.fst (Option.some.inj (j_ret eG0 hE))) (congrArg Prod.snd (Option.some.inj (j_ret eG0 hE))) jw dX10_readDocument_93
      · rw [if_pos c20] at hE
        refine lv_aload_n hx hb dX10_readDocument_67 rfl (lv_at hl 1 rfl) ?_
        refine lv_bipush (v := -100) hx hb dX10_readDocument_68 (by decide) ?_
        refine lv_aload_n hx hb dX10_readDocument_70 rfl (lv_at hl 1 rfl) ?_
        refine jg_10_16 jc jw ho wd_6_75 dX10_readDocument_71 ?_
        refine lv_isub hx hb dX10_readDocument_74 ?_
        obtain ⟨xx21, exx21, hE⟩ := j_lv hE
        try dsimp only at hE
        refine jc_vi [.int ((-100 : Int32) - (mm19 o 16))] [] jc jw hA ho (by decide) rfl (c_X10_done hY ho (M := mm19) exx21.symm) sd_X10_138 rfl hl.1 (j_hR hRf hRl rfl rfl) (Nat.le_of_ble_eq_true rfl) dX10_readDocument_75 (fun H locs jw => ?_)
        exact kr _ _ _ _ _ _ (congrArg Prod.fst (Option.some.inj (j_ret eG0 hE))) (congrArg Prod.snd (Option.some.inj (j_ret eG0 hE))) jw dX10_readDocument_78
    have LP8 : ∀ (n : Nat) (vv9 : Int32) (mm10 : JM) (H : Heap) (locs : List Loc) (ls : Array Slot), G8 (lp_X10_readDocument_1 Y o n vv9 mm10) = some r → JW D Y ty ad A s.heap mm10 H locs → lv_has ls 3 [(2, .int vv9), (0, .ref (ad o)), (1, .int p1)] → W p l e R s m args below meth c H locs 0 0 Q (F0 m 35 ls []) := by
      intro n
      induction n with
      | zero => intro vv9 mm10 H locs ls hE jw hl; exact absurd hE (hG8 _)
      | succ n ih =>
        intro vv9 mm10 H locs ls hE jw hl
        rw [lp_X10_readDocument_1] at hE
        refine lv_iload_n hx hb dX10_readDocument_35 rfl (lv_at hl 0 rfl) ?_
        have B16 : ∀ (H : Heap) (locs : List Loc), JW D Y ty ad A s.heap mm10 H locs → (vv9 = 0 ∨ (mm10 o 6) ≤ (mm10 o 16)) → W p l e R s m args below meth c H locs 0 0 Q (F0 m 58 ls []) := by
          intro H locs jw hcc
          rw [if_pos hcc] at hE
          exact E8_58 vv9 mm10  H locs ls hE jw (lv_sub hl [0, 1, 2] rfl)
        refine lv_if_eq (tgt := 58) hx hb dX10_readDocument_36 (by decide) (fun c11 => B16 _ _ jw (Or.inl c11)) (fun c11 => ?_)
        refine lv_aload_n hx hb dX10_readDocument_39 rfl (lv_at hl 1 rfl) ?_
        refine jg_10_16 jc jw ho wd_6_75 dX10_readDocument_40 ?_
        refine lv_aload_n hx hb dX10_readDocument_43 rfl (lv_at hl 1 rfl) ?_
        refine jg_10_6 jc jw ho wd_6_65 dX10_readDocument_44 ?_
        refine lv_icmp_ge (tgt := 58) hx hb dX10_readDocument_47 (by decide) (fun c12 => B16 _ _ jw (Or.inr c12)) (fun c12 => ?_)
        rw [if_neg (fun hq => hq.elim (fun hq => (j_abs c11 hq)) (fun hq => (j_abs c12 hq)))] at hE
        refine lv_aload_n hx hb dX10_readDocument_50 rfl (lv_at hl 1 rfl) ?_
        obtain ⟨xx13, exx13, hE⟩ := j_bd hG8 hE
        try dsimp only at hE
        refine jc_sz [.ref (ad o)] [] jc jw hA (c_X10_readsItem_5 hY ho (M := mm10) exx13) sd_X10_171 rfl hl.1 (j_hR hRf hRl rfl rfl) (Nat.le_of_ble_eq_true rfl) dX10_readDocument_51 (fun H locs jw hz => ?_)
        have z_14 := hz
        refine lv_topi (fun vv15 evv15 => ?_)
        replace hE := j_lu hE evv15
        try dsimp only at hE
        have zvv15 : vv15 = 0 ∨ vv15 = 1 := by rw [evv15]; exact z_14
        refine lv_istore_n (lv' := [(2, .int vv15), (0, .ref (ad o)), (1, .int p1)]) hx hb dX10_readDocument_54 rfl hl (by decide) rfl (fun ls hl => ?_)
        refine lv_goto (tgt := 35) hx hb dX10_readDocument_55 (by decide) ?_
        exact ih vv15 xx13.2 H locs ls hE jw (lv_sub hl [0, 1, 2] rfl)
    exact LP8 j_fuel (1 : Int32) mm7 H locs ls hE jw (lv_sub hl [0, 1, 2] rfl)
  · rw [if_pos c2] at hE
    refine lv_aload_n hx hb dX10_readDocument_7 rfl (lv_at hl 0 rfl) ?_
    refine lv_iconst (v := 0) hx hb dX10_readDocument_8 (by decide) ?_
    refine js_10_6 jc jw ho wd_6_65 dX10_readDocument_9 (fun H locs jw => ?_)
    obtain ⟨mm3, emm3, hE⟩ := j_lv hE
    rw [← emm3] at jw
    try dsimp only at hE
    refine lv_aload_n hx hb dX10_readDocument_12 rfl (lv_at hl 0 rfl) ?_
    refine lv_iconst (v := 1) hx hb dX10_readDocument_13 (by decide) ?_
    obtain ⟨xx4, exx4, hE⟩ := j_lv hE
    try dsimp only at hE
    refine jc_vi [.int (1 : Int32)] [] jc jw hA ho (by decide) rfl (c_X10_fails hY ho (M := mm3) exx4.symm) sd_X10_130 rfl hl.1 (j_hR hRf hRl rfl rfl) (Nat.le_of_ble_eq_true rfl) dX10_readDocument_14 (fun H locs jw => ?_)
    exact kr _ _ _ _ _ _ (congrArg Prod.fst (Option.some.inj (j_ret eG0 hE))) (congrArg Prod.snd (Option.some.inj (j_ret eG0 hE))) jw dX10_readDocument_17
def s_X10_most (Y : JY) (M : JM) (p1 : Int32) (p2 : Int32) : Int32 := if p1 ≤ p2 then (p2) else (p1)
set_option maxRecDepth 100000 in
set_option maxHeartbeats 4000000 in
theorem c_X10_most {D : va_G} {Y : JY} {ty : Nat → ClassId} {ad : Nat → Nat} {sz : Nat} {l : Launch} {M : JM} (hY : j_ok Y) {p1 : Int32} {p2 : Int32}  {r : Int32} (hE : s_X10_most Y M p1 p2 = r) : JMi D Y ty ad sz l yX10_most cX10_most 2 (some .int) 0 0 [.int p1, .int p2] M r M := by
  refine j_ofI hY (by decide +kernel) (Nat.le_of_ble_eq_true rfl) (fun p e s m below meth c args R Q A hRf hRl hA jc jw kr ls hl => ?_)
  have hx := jc.1
  have hb := jc.2.1
  have hl : lv_has ls 2 [(0, .int p1), (1, .int p2)] := hl
  unfold s_X10_most at hE
  obtain ⟨G0, eG0, hE⟩ := j_F0 hE
  refine lv_iload_n hx hb dX10_most_0 rfl (lv_at hl 0 rfl) ?_
  refine lv_iload_n hx hb dX10_most_1 rfl (lv_at hl 1 rfl) ?_
  refine lv_icmp_le (tgt := 9) hx hb dX10_most_2 (by decide) (fun c1 => ?_) (fun c1 => ?_)
  · rw [if_pos c1] at hE
    refine lv_iload_n hx hb dX10_most_9 rfl (lv_at hl 1 rfl) ?_
    exact kr _ _ _ _ _ _ (j_ret eG0 hE) rfl jw dX10_most_10
  · rw [if_neg c1] at hE
    refine lv_iload_n hx hb dX10_most_5 rfl (lv_at hl 0 rfl) ?_
    refine lv_goto (tgt := 10) hx hb dX10_most_6 (by decide) ?_
    exact kr _ _ _ _ _ _ (j_ret eG0 hE) rfl jw dX10_most_10
def s_X10_longestOf (Y : JY) (M : JM) (o : Nat) (p1 : Int32) (p2 : Int32) : Option (Int32) := if j_g (((25 : Int32) * p1) + p2) (j_ln Y (j_rf Y o 19)) then (some (M (j_rf Y o 19) (((25 : Int32) * p1) + p2).toNatClampNeg)) else none
set_option maxRecDepth 100000 in
set_option maxHeartbeats 4000000 in
theorem c_X10_longestOf {D : va_G} {Y : JY} {ty : Nat → ClassId} {ad : Nat → Nat} {sz : Nat} {l : Launch} {M : JM} (hY : j_ok Y) {o : Nat} {p1 : Int32} {p2 : Int32} (ho : j_kd Y o = 10) {r : Int32} (hE : s_X10_longestOf Y M o p1 p2 = some r) : JMi D Y ty ad sz l yX10_longestOf cX10_longestOf 3 (some .int) 0 0 [.ref (ad o), .int p1, .int p2] M r M := by
  refine j_ofI hY (by decide +kernel) (Nat.le_of_ble_eq_true rfl) (fun p e s m below meth c args R Q A hRf hRl hA jc jw kr ls hl => ?_)
  have hx := jc.1
  have hb := jc.2.1
  have hl : lv_has ls 3 [(0, .ref (ad o)), (1, .int p1), (2, .int p2)] := hl
  unfold s_X10_longestOf at hE
  obtain ⟨G0, eG0, hG0, hE⟩ := j_F0o hE
  refine lv_aload_n hx hb dX10_longestOf_0 rfl (lv_at hl 0 rfl) ?_
  refine jg_10_19 jc jw ho wd_6_78 dX10_longestOf_1 ?_
  have k1 := j_sub hY ho 19 (f := 100) rfl (by decide) (by decide) (by decide)
  refine lv_bipush (v := 25) hx hb dX10_longestOf_4 (by decide) ?_
  refine lv_iload_n hx hb dX10_longestOf_6 rfl (lv_at hl 1 rfl) ?_
  refine lv_imul hx hb dX10_longestOf_7 ?_
  refine lv_iload_n hx hb dX10_longestOf_8 rfl (lv_at hl 2 rfl) ?_
  refine lv_iadd hx hb dX10_longestOf_9 ?_
  rcases Classical.em (j_g (((25 : Int32) * p1) + p2) (j_ln Y (j_rf Y o 19))) with g2 | g2
  case inr => rw [if_neg g2] at hE; exact absurd hE (hG0 _)
  rw [if_pos g2] at hE
  refine jr_iald jc jw k1 (j_g_in g2) dX10_longestOf_10 ?_
  exact kr _ _ _ _ _ _ (Option.some.inj (j_ret eG0 hE)) rfl jw dX10_longestOf_11
def lp_X10_measures_2 (Y : JY) (p5 : Int32) (p4 : Int32) (vv2 : Int32) (p6 : Int32) (o : Nat) (q1 : Nat) (q2 : Nat) (n : Nat) (vv6 : Int32) (mm7 : JM) : Option (JM) := match n with
  | 0 => none
  | n + 1 => if vv6 < p5 then (some mm7) else ((if p4 ≤ vv2 ∨ p6 ≤ vv6 then (some (0 : Int32)) else ((s_X10_longestOf Y mm7 o (vv2 + (1 : Int32)) vv6).bind fun xx12 => (s_X10_longestOf Y mm7 o vv2 (vv6 + (1 : Int32))).bind fun xx13 => some (s_X10_most Y mm7 xx12 xx13))).bind fun xx31 => (if p4 ≤ vv2 ∨ p6 ≤ vv6 then (some xx31) else (if j_g vv2 (j_ln Y q1) then (if j_g vv6 (j_ln Y q2) then (if (mm7 q1 vv2.toNatClampNeg) = (mm7 q2 vv6.toNatClampNeg) then ((s_X10_longestOf Y mm7 o (vv2 + (1 : Int32)) (vv6 + (1 : Int32))).bind fun xx22 => lt_ (s_X10_most Y mm7 xx31 ((1 : Int32) + xx22)) fun vv23 => some vv23) else (some xx31)) else none) else none)).bind fun xx30 => if j_g (((25 : Int32) * vv2) + vv6) (j_ln Y (j_rf Y o 19)) then (lt_ (j_up mm7 (j_rf Y o 19) (((25 : Int32) * vv2) + vv6).toNatClampNeg xx30) fun mm28 => lt_ (vv6 + (-1 : Int32)) fun vv29 => lp_X10_measures_2 Y p5 p4 vv2 p6 o q1 q2 n vv29 mm28) else none)
def lp_X10_measures_1 (Y : JY) (p3 : Int32) (p5 : Int32) (p4 : Int32) (p6 : Int32) (o : Nat) (q1 : Nat) (q2 : Nat) (n : Nat) (vv2 : Int32) (mm3 : JM) : Option (JM) := match n with
  | 0 => none
  | n + 1 => if vv2 < p3 then (some mm3) else ((lp_X10_measures_2 Y p5 p4 vv2 p6 o q1 q2 j_fuel p6 mm3).bind fun xx34 => lt_ (vv2 + (-1 : Int32)) fun vv33 => lp_X10_measures_1 Y p3 p5 p4 p6 o q1 q2 n vv33 xx34)
def s_X10_measures (Y : JY) (M : JM) (o : Nat) (q1 : Nat) (q2 : Nat) (p3 : Int32) (p4 : Int32) (p5 : Int32) (p6 : Int32) : Option (JM) := (lp_X10_measures_1 Y p3 p5 p4 p6 o q1 q2 j_fuel p4 M).bind fun xx35 => some xx35
set_option maxRecDepth 100000 in
set_option maxHeartbeats 4000000 in
theorem c_X10_measures {D : va_G} {Y : JY} {ty : Nat → ClassId} {ad : Nat → Nat} {sz : Nat} {l : Launch} {M : JM} (hY : j_ok Y) {o : Nat} {q1 : Nat} {q2 : Nat} {p3 : Int32} {p4 : Int32} {p5 : Int32} {p6 : Int32} (ho : j_kd Y o = 10) (hq1 : j_kd Y q1 = 100) (hq2 : j_kd Y q2 = 100) {r : JM} (hE : s_X10_measures Y M o q1 q2 p3 p4 p5 p6 = some r) : JMv D Y ty ad sz l yX10_measures cX10_measures 10 1 22 [.ref (ad o), .ref (ad q1), .ref (ad q2), .int p3, .int p4, .int p5, .int p6] M r := by
  refine j_ofV hY (by decide +kernel) (Nat.le_of_ble_eq_true rfl) (fun p e s m below meth c args R Q A hRf hRl hA jc jw kr ls hl => ?_)
  have hx := jc.1
  have hb := jc.2.1
  have hl : lv_has ls 10 [(0, .ref (ad o)), (1, .ref (ad q1)), (2, .ref (ad q2)), (3, .int p3), (4, .int p4), (5, .int p5), (6, .int p6)] := hl
  unfold s_X10_measures at hE
  obtain ⟨G0, eG0, hG0, hE⟩ := j_F0o hE
  refine lv_iload hx hb dX10_measures_0 (lv_at hl 4 rfl) ?_
  refine lv_istore (lv' := [(7, .int p4), (0, .ref (ad o)), (1, .ref (ad q1)), (2, .ref (ad q2)), (3, .int p3), (4, .int p4), (5, .int p5), (6, .int p6)]) hx hb dX10_measures_2 hl (by decide) rfl (fun ls hl => ?_)
  obtain ⟨G1, eG1, hG1, hE⟩ := j_ctxB hG0 hE
  have LP1 : ∀ (n : Nat) (vv2 : Int32) (mm3 : JM) (H : Heap) (locs : List Loc) (ls : Array Slot), G1 (lp_X10_measures_1 Y p3 p5 p4 p6 o q1 q2 n vv2 mm3) = some r → JW D Y ty ad A s.heap mm3 H locs → lv_has ls 10 [(7, .int vv2), (0, .ref (ad o)), (1, .ref (ad q1)), (2, .ref (ad q2)), (3, .int p3), (4, .int p4), (5, .int p5), (6, .int p6)] → W p l e R s m args below meth c H locs 0 0 Q (F0 m 4 ls []) := by
    intro n
    induction n with
    | zero => intro vv2 mm3 H locs ls hE jw hl; exact absurd hE (hG1 _)
    | succ n ih =>
      intro vv2 mm3 H locs ls hE jw hl
      rw [lp_X10_measures_1] at hE
      refine lv_iload hx hb dX10_measures_4 (lv_at hl 0 rfl) ?_
      refine lv_iload_n hx hb dX10_measures_6 rfl (lv_at hl 4 rfl) ?_
      refine lv_icmp_lt (tgt := 137) hx hb dX10_measures_7 (by decide) (fun c4 => ?_) (fun c4 => ?_)
      · rw [if_pos c4] at hE
        replace hE := j_popB eG1 hE
        try dsimp only at hE
        exact kr _ _ _ _ _ (Option.some.inj (j_ret eG0 hE)) jw dX10_measures_137
      · rw [if_neg c4] at hE
        refine lv_iload hx hb dX10_measures_10 (lv_at hl 7 rfl) ?_
        refine lv_istore (lv' := [(8, .int p6), (7, .int vv2), (0, .ref (ad o)), (1, .ref (ad q1)), (2, .ref (ad q2)), (3, .int p3), (4, .int p4), (5, .int p5), (6, .int p6)]) hx hb dX10_measures_12 hl (by decide) rfl (fun ls hl => ?_)
        obtain ⟨G5, eG5, hG5, hE⟩ := j_ctxB hG1 hE
        have E5_131 : ∀ (mm32 : JM)  (H : Heap) (locs : List Loc) (ls : Array Slot), G5 (some mm32) = some r → JW D Y ty ad A s.heap mm32 H locs → lv_has ls 10 [(7, .int vv2), (0, .ref (ad o)), (1, .ref (ad q1)), (2, .ref (ad q2)), (3, .int p3), (4, .int p4), (5, .int p5), (6, .int p6)] → W p l e R s m args below meth c H locs 0 0 Q (F0 m 131 ls []) := by
          intro mm32  H locs ls hE jw hl
          replace hE := j_popB eG5 hE
          try dsimp only at hE
          obtain ⟨vv33, evv33, hE⟩ := j_lv hE
          try dsimp only at hE
          refine lv_iinc (v := vv33) (lv' := [(7, .int vv33), (0, .ref (ad o)), (1, .ref (ad q1)), (2, .ref (ad q2)), (3, .int p3), (4, .int p4), (5, .int p5), (6, .int p6)]) hx hb dX10_measures_131 hl (k := 0) rfl (by rw [evv33]; rfl) (by decide) rfl (fun ls hl => ?_)
          refine lv_goto (tgt := 4) hx hb dX10_measures_134 (by decide) ?_
          exact ih vv33 mm32 H locs ls hE jw (lv_sub hl [0, 1, 2, 3, 4, 5, 6, 7] rfl)
        have LP5 : ∀ (n : Nat) (vv6 : Int32) (mm7 : JM) (H : Heap) (locs : List Loc) (ls : Array Slot), G5 (lp_X10_measures_2 Y p5 p4 vv2 p6 o q1 q2 n vv6 mm7) = some r → JW D Y ty ad A s.heap mm7 H locs → lv_has ls 10 [(8, .int vv6), (7, .int vv2), (0, .ref (ad o)), (1, .ref (ad q1)), (2, .ref (ad q2)), (3, .int p3), (4, .int p4), (5, .int p5), (6, .int p6)] → W p l e R s m args below meth c H locs 0 0 Q (F0 m 14 ls []) := by
          intro n
          induction n with
          | zero => intro vv6 mm7 H locs ls hE jw hl; exact absurd hE (hG5 _)
          | succ n ih =>
            intro vv6 mm7 H locs ls hE jw hl
            rw [lp_X10_measures_2] at hE
            refine lv_iload hx hb dX10_measures_14 (lv_at hl 0 rfl) ?_
            refine lv_iload hx hb dX10_measures_16 (lv_at hl 7 rfl) ?_
            refine lv_icmp_lt (tgt := 131) hx hb dX10_measures_18 (by decide) (fun c8 => ?_) (fun c8 => ?_)
            · rw [if_pos c8] at hE
              exact E5_131 mm7  H locs ls hE jw (lv_sub hl [1, 2, 3, 4, 5, 6, 7, 8] rfl)
            · rw [if_neg c8] at hE
              refine lv_iload hx hb dX10_measures_21 (lv_at hl 1 rfl) ?_
              refine lv_iload hx hb dX10_measures_23 (lv_at hl 6 rfl) ?_
              obtain ⟨G11, eG11, hG11, hE⟩ := j_ctxB hG5 hE
              have J11 : ∀ (vv15 : Int32)  (H : Heap) (locs : List Loc) (ls : Array Slot), G11 (some vv15) = some r → JW D Y ty ad A s.heap mm7 H locs → lv_has ls 10 [(8, .int vv6), (7, .int vv2), (0, .ref (ad o)), (1, .ref (ad q1)), (2, .ref (ad q2)), (3, .int p3), (4, .int p4), (5, .int p5), (6, .int p6)] → W p l e R s m args below meth c H locs 0 0 Q (F0 m 62 ls [.int vv15]) := by
                intro vv15  H locs ls hE jw hl
                replace hE := j_popB eG11 hE
                try dsimp only at hE
                refine lv_istore (lv' := [(9, .int vv15), (8, .int vv6), (7, .int vv2), (0, .ref (ad o)), (1, .ref (ad q1)), (2, .ref (ad q2)), (3, .int p3), (4, .int p4), (5, .int p5), (6, .int p6)]) hx hb dX10_measures_62 hl (by decide) rfl (fun ls hl => ?_)
                refine lv_iload hx hb dX10_measures_64 (lv_at hl 2 rfl) ?_
                refine lv_iload hx hb dX10_measures_66 (lv_at hl 7 rfl) ?_
                obtain ⟨G18, eG18, hG18, hE⟩ := j_ctxB hG5 hE
                have J18 : ∀ (vv25 : Int32)  (H : Heap) (locs : List Loc) (ls : Array Slot), G18 (some vv25) = some r → JW D Y ty ad A s.heap mm7 H locs → lv_has ls 10 [(9, .int vv25), (8, .int vv6), (7, .int vv2), (0, .ref (ad o)), (1, .ref (ad q1)), (2, .ref (ad q2)), (3, .int p3), (4, .int p4), (5, .int p5), (6, .int p6)] → W p l e R s m args below meth c H locs 0 0 Q (F0 m 110 ls []) := by
                  intro vv25  H locs ls hE jw hl
                  replace hE := j_popB eG18 hE
                  try dsimp only at hE
                  refine lv_aload_n hx hb dX10_measures_110 rfl (lv_at hl 3 rfl) ?_
                  refine jg_10_19 jc jw ho wd_6_78 dX10_measures_111 ?_
                  have k26 := j_sub hY ho 19 (f := 100) rfl (by decide) (by decide) (by decide)
                  refine lv_bipush (v := 25) hx hb dX10_measures_114 (by decide) ?_
                  refine lv_iload hx hb dX10_measures_116 (lv_at hl 2 rfl) ?_
                  refine lv_imul hx hb dX10_measures_118 ?_
                  refine lv_iload hx hb dX10_measures_119 (lv_at hl 1 rfl) ?_
                  refine lv_iadd hx hb dX10_measures_121 ?_
                  refine lv_iload hx hb dX10_measures_122 (lv_at hl 0 rfl) ?_
                  rcases Classical.em (j_g (((25 : Int32) * vv2) + vv6) (j_ln Y (j_rf Y o 19))) with g27 | g27
                  case inr => rw [if_neg g27] at hE; exact absurd hE (hG5 _)
                  rw [if_pos g27] at hE
                  refine jr_iast jc jw k26 (j_g_in g27) dX10_measures_124 (fun H locs jw => ?_)
                  obtain ⟨mm28, emm28, hE⟩ := j_lv hE
                  rw [← emm28] at jw
                  try dsimp only at hE
                  obtain ⟨vv29, evv29, hE⟩ := j_lv hE
                  try dsimp only at hE
                  refine lv_iinc (v := vv29) (lv' := [(8, .int vv29), (9, .int vv25), (7, .int vv2), (0, .ref (ad o)), (1, .ref (ad q1)), (2, .ref (ad q2)), (3, .int p3), (4, .int p4), (5, .int p5), (6, .int p6)]) hx hb dX10_measures_125 hl (k := 1) rfl (by rw [evv29]; rfl) (by decide) rfl (fun ls hl => ?_)
                  refine lv_goto (tgt := 14) hx hb dX10_measures_128 (by decide) ?_
                  exact ih vv29 mm28 H locs ls hE jw (lv_sub hl [0, 2, 3, 4, 5, 6, 7, 8, 9] rfl)
                have B24 : ∀ (H : Heap) (locs : List Loc), JW D Y ty ad A s.heap mm7 H locs → (p4 ≤ vv2 ∨ p6 ≤ vv6) → W p l e R s m args below meth c H locs 0 0 Q (F0 m 110 ls []) := by
                  intro H locs jw hcc
                  rw [if_pos hcc] at hE
                  exact J18 vv15  H locs ls hE jw (lv_sub hl [0, 1, 2, 3, 4, 5, 6, 7, 8, 9] rfl)
                refine lv_icmp_ge (tgt := 110) hx hb dX10_measures_68 (by decide) (fun c16 => B24 _ _ jw (Or.inl c16)) (fun c16 => ?_)
                refine lv_iload hx hb dX10_measures_71 (lv_at hl 1 rfl) ?_
                refine lv_iload hx hb dX10_measures_73 (lv_at hl 9 rfl) ?_
                refine lv_icmp_ge (tgt := 110) hx hb dX10_measures_75 (by decide) (fun c17 => B24 _ _ jw (Or.inr c17)) (fun c17 => ?_)
                rw [if_neg (fun hq => hq.elim (fun hq => (j_abs c16 hq)) (fun hq => (j_abs c17 hq)))] at hE
                refine lv_aload_n hx hb dX10_measures_78 rfl (lv_at hl 4 rfl) ?_
                refine lv_iload hx hb dX10_measures_79 (lv_at hl 2 rfl) ?_
                rcases Classical.em (j_g vv2 (j_ln Y q1)) with g19 | g19
                case inr => rw [if_neg g19] at hE; exact absurd hE (hG18 _)
                rw [if_pos g19] at hE
                refine jr_iald jc jw hq1 (j_g_in g19) dX10_measures_81 ?_
                refine lv_aload_n hx hb dX10_measures_82 rfl (lv_at hl 5 rfl) ?_
                refine lv_iload hx hb dX10_measures_83 (lv_at hl 1 rfl) ?_
                rcases Classical.em (j_g vv6 (j_ln Y q2)) with g20 | g20
                case inr => rw [if_neg g20] at hE; exact absurd hE (hG18 _)
                rw [if_pos g20] at hE
                refine jr_iald jc jw hq2 (j_g_in g20) dX10_measures_85 ?_
                refine lv_icmp_ne (tgt := 110) hx hb dX10_measures_86 (by decide) (fun c21 => ?_) (fun c21 => ?_)
                · rw [if_neg c21] at hE
                  exact J18 vv15  H locs ls hE jw (lv_sub hl [0, 1, 2, 3, 4, 5, 6, 7, 8, 9] rfl)
                · rw [if_pos c21] at hE
                  refine lv_iload hx hb dX10_measures_89 (lv_at hl 0 rfl) ?_
                  refine lv_iconst (v := 1) hx hb dX10_measures_91 (by decide) ?_
                  refine lv_aload_n hx hb dX10_measures_92 rfl (lv_at hl 3 rfl) ?_
                  refine lv_iload hx hb dX10_measures_93 (lv_at hl 2 rfl) ?_
                  refine lv_iconst (v := 1) hx hb dX10_measures_95 (by decide) ?_
                  refine lv_iadd hx hb dX10_measures_96 ?_
                  refine lv_iload hx hb dX10_measures_97 (lv_at hl 1 rfl) ?_
                  refine lv_iconst (v := 1) hx hb dX10_measures_99 (by decide) ?_
                  refine lv_iadd hx hb dX10_measures_100 ?_
                  obtain ⟨xx22, exx22, hE⟩ := j_bd hG18 hE
                  try dsimp only at hE
                  refine jc_vi [.int (vv2 + (1 : Int32)), .int (vv6 + (1 : Int32))] [.int (1 : Int32), .int vv15] jc jw hA ho (by decide) rfl (c_X10_longestOf hY ho (M := mm7) exx22) sd_X10_178 rfl hl.1 (j_hR hRf hRl rfl rfl) (Nat.le_of_ble_eq_true rfl) dX10_measures_101 (fun H locs jw => ?_)
                  refine lv_iadd hx hb dX10_measures_104 ?_
                  refine jc_si [.int vv15, .int ((1 : Int32) + xx22)] [] jc jw hA (c_X10_most hY  (M := mm7) rfl) sd_X10_182 rfl hl.1 (j_hR hRf hRl rfl rfl) (Nat.le_of_ble_eq_true rfl) dX10_measures_105 (fun H locs jw => ?_)
                  refine lv_topi (fun vv23 evv23 => ?_)
                  replace hE := j_lu hE evv23
                  try dsimp only at hE
                  refine lv_istore (lv' := [(9, .int vv23), (8, .int vv6), (7, .int vv2), (0, .ref (ad o)), (1, .ref (ad q1)), (2, .ref (ad q2)), (3, .int p3), (4, .int p4), (5, .int p5), (6, .int p6)]) hx hb dX10_measures_108 hl (by decide) rfl (fun ls hl => ?_)
                  exact J18 vv23  H locs ls hE jw (lv_sub hl [0, 1, 2, 3, 4, 5, 6, 7, 8, 9] rfl)
              have B14 : ∀ (H : Heap) (locs : List Loc), JW D Y ty ad A s.heap mm7 H locs → (p4 ≤ vv2 ∨ p6 ≤ vv6) → W p l e R s m args below meth c H locs 0 0 Q (F0 m 61 ls []) := by
                intro H locs jw hcc
                rw [if_pos hcc] at hE
                refine lv_iconst (v := 0) hx hb dX10_measures_61 (by decide) ?_
                exact J11 (0 : Int32)  H locs ls hE jw (lv_sub hl [0, 1, 2, 3, 4, 5, 6, 7, 8] rfl)
              refine lv_icmp_ge (tgt := 61) hx hb dX10_measures_25 (by decide) (fun c9 => B14 _ _ jw (Or.inl c9)) (fun c9 => ?_)
              refine lv_iload hx hb dX10_measures_28 (lv_at hl 0 rfl) ?_
              refine lv_iload hx hb dX10_measures_30 (lv_at hl 8 rfl) ?_
              refine lv_icmp_ge (tgt := 61) hx hb dX10_measures_32 (by decide) (fun c10 => B14 _ _ jw (Or.inr c10)) (fun c10 => ?_)
              rw [if_neg (fun hq => hq.elim (fun hq => (j_abs c9 hq)) (fun hq => (j_abs c10 hq)))] at hE
              refine lv_aload_n hx hb dX10_measures_35 rfl (lv_at hl 2 rfl) ?_
              refine lv_iload hx hb dX10_measures_36 (lv_at hl 1 rfl) ?_
              refine lv_iconst (v := 1) hx hb dX10_measures_38 (by decide) ?_
              refine lv_iadd hx hb dX10_measures_39 ?_
              refine lv_iload hx hb dX10_measures_40 (lv_at hl 0 rfl) ?_
              obtain ⟨xx12, exx12, hE⟩ := j_bd hG11 hE
              try dsimp only at hE
              refine jc_vi [.int (vv2 + (1 : Int32)), .int vv6] [] jc jw hA ho (by decide) rfl (c_X10_longestOf hY ho (M := mm7) exx12) sd_X10_178 rfl hl.1 (j_hR hRf hRl rfl rfl) (Nat.le_of_ble_eq_true rfl) dX10_measures_42 (fun H locs jw => ?_)
              refine lv_aload_n hx hb dX10_measures_45 rfl (lv_at hl 2 rfl) ?_
              refine lv_iload hx hb dX10_measures_46 (lv_at hl 1 rfl) ?_
              refine lv_iload hx hb dX10_measures_48 (lv_at hl 0 rfl) ?_
              refine lv_iconst (v := 1) hx hb dX10_measures_50 (by decide) ?_
              refine lv_iadd hx hb dX10_measures_51 ?_
              obtain ⟨xx13, exx13, hE⟩ := j_bd hG11 hE
              try dsimp only at hE
              refine jc_vi [.int vv2, .int (vv6 + (1 : Int32))] [.int xx12] jc jw hA ho (by decide) rfl (c_X10_longestOf hY ho (M := mm7) exx13) sd_X10_178 rfl hl.1 (j_hR hRf hRl rfl rfl) (Nat.le_of_ble_eq_true rfl) dX10_measures_52 (fun H locs jw => ?_)
              refine jc_si [.int xx12, .int xx13] [] jc jw hA (c_X10_most hY  (M := mm7) rfl) sd_X10_182 rfl hl.1 (j_hR hRf hRl rfl rfl) (Nat.le_of_ble_eq_true rfl) dX10_measures_55 (fun H locs jw => ?_)
              refine lv_goto (tgt := 62) hx hb dX10_measures_58 (by decide) ?_
              exact J11 (s_X10_most Y mm7 xx12 xx13)  H locs ls hE jw (lv_sub hl [0, 1, 2, 3, 4, 5, 6, 7, 8] rfl)
        exact LP5 j_fuel p6 mm3 H locs ls hE jw (lv_sub hl [0, 1, 2, 3, 4, 5, 6, 7, 8] rfl)
  exact LP1 j_fuel p4 M s.heap [] ls hE jw (lv_sub hl [0, 1, 2, 3, 4, 5, 6, 7] rfl)
def lp_X10_pairs_2 (Y : JY) (p6 : Int32) (vv6 : Int32) (q7 : Nat) (q1 : Nat) (q2 : Nat) (o : Nat) (n : Nat) (vv10 : Int32) (vv11 : Int32) (vv12 : Int32) (mm13 : JM) : Option (Int32 × Int32 × JM) := match n with
  | 0 => none
  | n + 1 => if p6 ≤ vv12 then (some (vv10, vv11, mm13)) else (if j_g vv6 (j_ln Y q7) then (if ¬ ((mm13 q7 vv6.toNatClampNeg) = (-1 : Int32)) ∨ vv11 ≤ 0 then (some (vv10, vv11, mm13)) else (if j_g vv6 (j_ln Y q1) then (if j_g vv12 (j_ln Y q2) then ((if (mm13 q1 vv6.toNatClampNeg) = (mm13 q2 vv12.toNatClampNeg) then ((s_X10_longestOf Y mm13 o (vv6 + (1 : Int32)) (vv12 + (1 : Int32))).bind fun xx22 => if xx22 = (vv11 - (1 : Int32)) then (if j_g vv6 (j_ln Y q7) then (lt_ (j_up mm13 q7 vv6.toNatClampNeg vv12) fun mm25 => lt_ (vv12 + (1 : Int32)) fun vv26 => lt_ (vv11 + (-1 : Int32)) fun vv27 => some (vv26, vv27, mm25)) else none) else (some (vv10, vv11, mm13))) else (some (vv10, vv11, mm13))).bind fun xx32 => lt_ (vv12 + (1 : Int32)) fun vv31 => lp_X10_pairs_2 Y p6 vv6 q7 q1 q2 o n xx32.1 xx32.2.1 vv31 xx32.2.2) else none) else none)) else none)
def lp_X10_pairs_1 (Y : JY) (p4 : Int32) (p6 : Int32) (q7 : Nat) (q1 : Nat) (q2 : Nat) (o : Nat) (n : Nat) (vv4 : Int32) (vv5 : Int32) (vv6 : Int32) (mm7 : JM) : Option (JM) := match n with
  | 0 => none
  | n + 1 => if p4 ≤ vv6 then (some mm7) else ((lp_X10_pairs_2 Y p6 vv6 q7 q1 q2 o j_fuel vv4 vv5 vv4 mm7).bind fun xx38 => lt_ (vv6 + (1 : Int32)) fun vv37 => lp_X10_pairs_1 Y p4 p6 q7 q1 q2 o n xx38.1 xx38.2.1 vv37 xx38.2.2)
def s_X10_pairs (Y : JY) (M : JM) (o : Nat) (q1 : Nat) (q2 : Nat) (p3 : Int32) (p4 : Int32) (p5 : Int32) (p6 : Int32) (q7 : Nat) : Option (JM) := (s_X10_measures Y M o q1 q2 p3 p4 p5 p6).bind fun xx1 => (s_X10_longestOf Y xx1 o p3 p5).bind fun xx2 => (lp_X10_pairs_1 Y p4 p6 q7 q1 q2 o j_fuel p5 xx2 p3 xx1).bind fun xx39 => some xx39
set_option maxRecDepth 100000 in
set_option maxHeartbeats 4000000 in
theorem c_X10_pairs {D : va_G} {Y : JY} {ty : Nat → ClassId} {ad : Nat → Nat} {sz : Nat} {l : Launch} {M : JM} (hY : j_ok Y) {o : Nat} {q1 : Nat} {q2 : Nat} {p3 : Int32} {p4 : Int32} {p5 : Int32} {p6 : Int32} {q7 : Nat} (ho : j_kd Y o = 10) (hq1 : j_kd Y q1 = 100) (hq2 : j_kd Y q2 = 100) (hq7 : j_kd Y q7 = 100) {r : JM} (hE : s_X10_pairs Y M o q1 q2 p3 p4 p5 p6 q7 = some r) : JMv D Y ty ad sz l yX10_pairs cX10_pairs 12 2 51 [.ref (ad o), .ref (ad q1), .ref (ad q2), .int p3, .int p4, .int p5, .int p6, .ref (ad q7)] M r := by
  refine j_ofV hY (by decide +kernel) (Nat.le_of_ble_eq_true rfl) (fun p e s m below meth c args R Q A hRf hRl hA jc jw kr ls hl => ?_)
  have hx := jc.1
  have hb := jc.2.1
  have hl : lv_has ls 12 [(0, .ref (ad o)), (1, .ref (ad q1)), (2, .ref (ad q2)), (3, .int p3), (4, .int p4), (5, .int p5), (6, .int p6), (7, .ref (ad q7))] := hl
  unfold s_X10_pairs at hE
  obtain ⟨G0, eG0, hG0, hE⟩ := j_F0o hE
  refine lv_aload_n hx hb dX10_pairs_0 rfl (lv_at hl 0 rfl) ?_
  refine lv_aload_n hx hb dX10_pairs_1 rfl (lv_at hl 1 rfl) ?_
  refine lv_aload_n hx hb dX10_pairs_2 rfl (lv_at hl 2 rfl) ?_
  refine lv_iload_n hx hb dX10_pairs_3 rfl (lv_at hl 3 rfl) ?_
  refine lv_iload hx hb dX10_pairs_4 (lv_at hl 4 rfl) ?_
  refine lv_iload hx hb dX10_pairs_6 (lv_at hl 5 rfl) ?_
  refine lv_iload hx hb dX10_pairs_8 (lv_at hl 6 rfl) ?_
  obtain ⟨xx1, exx1, hE⟩ := j_bd hG0 hE
  try dsimp only at hE
  refine jc_vv [.ref (ad q1), .ref (ad q2), .int p3, .int p4, .int p5, .int p6] [] jc jw hA ho (by decide) rfl (c_X10_measures hY ho hq1 hq2 (M := M) exx1) sd_X10_185 rfl hl.1 (j_hR hRf hRl rfl rfl) (Nat.le_of_ble_eq_true rfl) dX10_pairs_10 (fun H locs jw => ?_)
  refine lv_iload hx hb dX10_pairs_13 (lv_at hl 5 rfl) ?_
  refine lv_istore (lv' := [(8, .int p5), (0, .ref (ad o)), (1, .ref (ad q1)), (2, .ref (ad q2)), (3, .int p3), (4, .int p4), (5, .int p5), (6, .int p6), (7, .ref (ad q7))]) hx hb dX10_pairs_15 hl (by decide) rfl (fun ls hl => ?_)
  refine lv_aload_n hx hb dX10_pairs_17 rfl (lv_at hl 1 rfl) ?_
  refine lv_iload_n hx hb dX10_pairs_18 rfl (lv_at hl 4 rfl) ?_
  refine lv_iload hx hb dX10_pairs_19 (lv_at hl 6 rfl) ?_
  obtain ⟨xx2, exx2, hE⟩ := j_bd hG0 hE
  try dsimp only at hE
  refine jc_vi [.int p3, .int p5] [] jc jw hA ho (by decide) rfl (c_X10_longestOf hY ho (M := xx1) exx2) sd_X10_178 rfl hl.1 (j_hR hRf hRl rfl rfl) (Nat.le_of_ble_eq_true rfl) dX10_pairs_21 (fun H locs jw => ?_)
  refine lv_istore (lv' := [(9, .int xx2), (8, .int p5), (0, .ref (ad o)), (1, .ref (ad q1)), (2, .ref (ad q2)), (3, .int p3), (4, .int p4), (5, .int p5), (6, .int p6), (7, .ref (ad q7))]) hx hb dX10_pairs_24 hl (by decide) rfl (fun ls hl => ?_)
  refine lv_iload_n hx hb dX10_pairs_26 rfl (lv_at hl 5 rfl) ?_
  refine lv_istore (lv' := [(10, .int p3), (9, .int xx2), (8, .int p5), (0, .ref (ad o)), (1, .ref (ad q1)), (2, .ref (ad q2)), (3, .int p3), (4, .int p4), (5, .int p5), (6, .int p6), (7, .ref (ad q7))]) hx hb dX10_pairs_27 hl (by decide) rfl (fun ls hl => ?_)
  obtain ⟨G3, eG3, hG3, hE⟩ := j_ctxB hG0 hE
  have LP3 : ∀ (n : Nat) (vv4 : Int32) (vv5 : Int32) (vv6 : Int32) (mm7 : JM) (H : Heap) (locs : List Loc) (ls : Array Slot), G3 (lp_X10_pairs_1 Y p4 p6 q7 q1 q2 o n vv4 vv5 vv6 mm7) = some r → JW D Y ty ad A s.heap mm7 H locs → lv_has ls 12 [(10, .int vv6), (9, .int vv5), (8, .int vv4), (0, .ref (ad o)), (1, .ref (ad q1)), (2, .ref (ad q2)), (4, .int p4), (6, .int p6), (7, .ref (ad q7))] → W p l e R s m args below meth c H locs 0 0 Q (F0 m 29 ls []) := by
    intro n
    induction n with
    | zero => intro vv4 vv5 vv6 mm7 H locs ls hE jw hl; exact absurd hE (hG3 _)
    | succ n ih =>
      intro vv4 vv5 vv6 mm7 H locs ls hE jw hl
      rw [lp_X10_pairs_1] at hE
      refine lv_iload hx hb dX10_pairs_29 (lv_at hl 0 rfl) ?_
      refine lv_iload hx hb dX10_pairs_31 (lv_at hl 6 rfl) ?_
      refine lv_icmp_ge (tgt := 119) hx hb dX10_pairs_33 (by decide) (fun c8 => ?_) (fun c8 => ?_)
      · rw [if_pos c8] at hE
        replace hE := j_popB eG3 hE
        try dsimp only at hE
        exact kr _ _ _ _ _ (Option.some.inj (j_ret eG0 hE)) jw dX10_pairs_119
      · rw [if_neg c8] at hE
        refine lv_iload hx hb dX10_pairs_36 (lv_at hl 2 rfl) ?_
        refine lv_istore (lv' := [(11, .int vv4), (10, .int vv6), (9, .int vv5), (8, .int vv4), (0, .ref (ad o)), (1, .ref (ad q1)), (2, .ref (ad q2)), (4, .int p4), (6, .int p6), (7, .ref (ad q7))]) hx hb dX10_pairs_38 hl (by decide) rfl (fun ls hl => ?_)
        obtain ⟨G9, eG9, hG9, hE⟩ := j_ctxB hG3 hE
        have E9_113 : ∀ (vv34 : Int32) (vv35 : Int32) (mm36 : JM)  (H : Heap) (locs : List Loc) (ls : Array Slot), G9 (some (vv34, vv35, mm36)) = some r → JW D Y ty ad A s.heap mm36 H locs → lv_has ls 12 [(10, .int vv6), (9, .int vv35), (8, .int vv34), (0, .ref (ad o)), (1, .ref (ad q1)), (2, .ref (ad q2)), (4, .int p4), (6, .int p6), (7, .ref (ad q7))] → W p l e R s m args below meth c H locs 0 0 Q (F0 m 113 ls []) := by
          intro vv34 vv35 mm36  H locs ls hE jw hl
          replace hE := j_popB eG9 hE
          try dsimp only at hE
          obtain ⟨vv37, evv37, hE⟩ := j_lv hE
          try dsimp only at hE
          refine lv_iinc (v := vv37) (lv' := [(10, .int vv37), (9, .int vv35), (8, .int vv34), (0, .ref (ad o)), (1, .ref (ad q1)), (2, .ref (ad q2)), (4, .int p4), (6, .int p6), (7, .ref (ad q7))]) hx hb dX10_pairs_113 hl (k := 0) rfl (by rw [evv37]; rfl) (by decide) rfl (fun ls hl => ?_)
          refine lv_goto (tgt := 29) hx hb dX10_pairs_116 (by decide) ?_
          exact ih vv34 vv35 vv37 mm36 H locs ls hE jw (lv_sub hl [0, 1, 2, 3, 4, 5, 6, 7, 8] rfl)
        have LP9 : ∀ (n : Nat) (vv10 : Int32) (vv11 : Int32) (vv12 : Int32) (mm13 : JM) (H : Heap) (locs : List Loc) (ls : Array Slot), G9 (lp_X10_pairs_2 Y p6 vv6 q7 q1 q2 o n vv10 vv11 vv12 mm13) = some r → JW D Y ty ad A s.heap mm13 H locs → lv_has ls 12 [(11, .int vv12), (10, .int vv6), (9, .int vv11), (8, .int vv10), (0, .ref (ad o)), (1, .ref (ad q1)), (2, .ref (ad q2)), (4, .int p4), (6, .int p6), (7, .ref (ad q7))] → W p l e R s m args below meth c H locs 0 0 Q (F0 m 40 ls []) := by
          intro n
          induction n with
          | zero => intro vv10 vv11 vv12 mm13 H locs ls hE jw hl; exact absurd hE (hG9 _)
          | succ n ih =>
            intro vv10 vv11 vv12 mm13 H locs ls hE jw hl
            rw [lp_X10_pairs_2] at hE
            refine lv_iload hx hb dX10_pairs_40 (lv_at hl 0 rfl) ?_
            refine lv_iload hx hb dX10_pairs_42 (lv_at hl 8 rfl) ?_
            refine lv_icmp_ge (tgt := 113) hx hb dX10_pairs_44 (by decide) (fun c14 => ?_) (fun c14 => ?_)
            · rw [if_pos c14] at hE
              exact E9_113 vv10 vv11 mm13  H locs ls hE jw (lv_sub hl [1, 2, 3, 4, 5, 6, 7, 8, 9] rfl)
            · rw [if_neg c14] at hE
              refine lv_aload hx hb dX10_pairs_47 (lv_at hl 9 rfl) ?_
              refine lv_iload hx hb dX10_pairs_49 (lv_at hl 1 rfl) ?_
              rcases Classical.em (j_g vv6 (j_ln Y q7)) with g15 | g15
              case inr => rw [if_neg g15] at hE; exact absurd hE (hG9 _)
              rw [if_pos g15] at hE
              refine jr_iald jc jw hq7 (j_g_in g15) dX10_pairs_51 ?_
              refine lv_iconst (v := -1) hx hb dX10_pairs_52 (by decide) ?_
              have B33 : ∀ (H : Heap) (locs : List Loc), JW D Y ty ad A s.heap mm13 H locs → (¬ ((mm13 q7 vv6.toNatClampNeg) = (-1 : Int32)) ∨ vv11 ≤ 0) → W p l e R s m args below meth c H locs 0 0 Q (F0 m 113 ls []) := by
                intro H locs jw hcc
                rw [if_pos hcc] at hE
                exact E9_113 vv10 vv11 mm13  H locs ls hE jw (lv_sub hl [1, 2, 3, 4, 5, 6, 7, 8, 9] rfl)
              refine lv_icmp_ne (tgt := 113) hx hb dX10_pairs_53 (by decide) (fun c16 => B33 _ _ jw (Or.inl c16)) (fun c16 => ?_)
              refine lv_iload hx hb dX10_pairs_56 (lv_at hl 2 rfl) ?_
              refine lv_if_le (tgt := 113) hx hb dX10_pairs_58 (by decide) (fun c17 => B33 _ _ jw (Or.inr c17)) (fun c17 => ?_)
              rw [if_neg (fun hq => hq.elim (fun hq => (j_absn c16 hq)) (fun hq => (j_abs c17 hq)))] at hE
              refine lv_aload_n hx hb dX10_pairs_61 rfl (lv_at hl 5 rfl) ?_
              refine lv_iload hx hb dX10_pairs_62 (lv_at hl 1 rfl) ?_
              rcases Classical.em (j_g vv6 (j_ln Y q1)) with g18 | g18
              case inr => rw [if_neg g18] at hE; exact absurd hE (hG9 _)
              rw [if_pos g18] at hE
              refine jr_iald jc jw hq1 (j_g_in g18) dX10_pairs_64 ?_
              refine lv_aload_n hx hb dX10_pairs_65 rfl (lv_at hl 6 rfl) ?_
              refine lv_iload hx hb dX10_pairs_66 (lv_at hl 0 rfl) ?_
              rcases Classical.em (j_g vv12 (j_ln Y q2)) with g19 | g19
              case inr => rw [if_neg g19] at hE; exact absurd hE (hG9 _)
              rw [if_pos g19] at hE
              refine jr_iald jc jw hq2 (j_g_in g19) dX10_pairs_68 ?_
              obtain ⟨G21, eG21, hG21, hE⟩ := j_ctxB hG9 hE
              have J21 : ∀ (vv28 : Int32) (vv29 : Int32) (mm30 : JM)  (H : Heap) (locs : List Loc) (ls : Array Slot), G21 (some (vv28, vv29, mm30)) = some r → JW D Y ty ad A s.heap mm30 H locs → lv_has ls 12 [(11, .int vv12), (10, .int vv6), (9, .int vv29), (8, .int vv28), (0, .ref (ad o)), (1, .ref (ad q1)), (2, .ref (ad q2)), (4, .int p4), (6, .int p6), (7, .ref (ad q7))] → W p l e R s m args below meth c H locs 0 0 Q (F0 m 107 ls []) := by
                intro vv28 vv29 mm30  H locs ls hE jw hl
                replace hE := j_popB eG21 hE
                try dsimp only at hE
                obtain ⟨vv31, evv31, hE⟩ := j_lv hE
                try dsimp only at hE
                refine lv_iinc (v := vv31) (lv' := [(11, .int vv31), (10, .int vv6), (9, .int vv29), (8, .int vv28), (0, .ref (ad o)), (1, .ref (ad q1)), (2, .ref (ad q2)), (4, .int p4), (6, .int p6), (7, .ref (ad q7))]) hx hb dX10_pairs_107 hl (k := 0) rfl (by rw [evv31]; rfl) (by decide) rfl (fun ls hl => ?_)
                refine lv_goto (tgt := 40) hx hb dX10_pairs_110 (by decide) ?_
                exact ih vv28 vv29 vv31 mm30 H locs ls hE jw (lv_sub hl [0, 1, 2, 3, 4, 5, 6, 7, 8, 9] rfl)
              refine lv_icmp_ne (tgt := 107) hx hb dX10_pairs_69 (by decide) (fun c20 => ?_) (fun c20 => ?_)
              · rw [if_neg c20] at hE
                exact J21 vv10 vv11 mm13  H locs ls hE jw (lv_sub hl [0, 1, 2, 3, 4, 5, 6, 7, 8, 9] rfl)
              · rw [if_pos c20] at hE
                refine lv_aload_n hx hb dX10_pairs_72 rfl (lv_at hl 4 rfl) ?_
                refine lv_iload hx hb dX10_pairs_73 (lv_at hl 1 rfl) ?_
                refine lv_iconst (v := 1) hx hb dX10_pairs_75 (by decide) ?_
                refine lv_iadd hx hb dX10_pairs_76 ?_
                refine lv_iload hx hb dX10_pairs_77 (lv_at hl 0 rfl) ?_
                refine lv_iconst (v := 1) hx hb dX10_pairs_79 (by decide) ?_
                refine lv_iadd hx hb dX10_pairs_80 ?_
                obtain ⟨xx22, exx22, hE⟩ := j_bd hG21 hE
                try dsimp only at hE
                refine jc_vi [.int (vv6 + (1 : Int32)), .int (vv12 + (1 : Int32))] [] jc jw hA ho (by decide) rfl (c_X10_longestOf hY ho (M := mm13) exx22) sd_X10_178 rfl hl.1 (j_hR hRf hRl rfl rfl) (Nat.le_of_ble_eq_true rfl) dX10_pairs_81 (fun H locs jw => ?_)
                refine lv_iload hx hb dX10_pairs_84 (lv_at hl 2 rfl) ?_
                refine lv_iconst (v := 1) hx hb dX10_pairs_86 (by decide) ?_
                refine lv_isub hx hb dX10_pairs_87 ?_
                refine lv_icmp_ne (tgt := 107) hx hb dX10_pairs_88 (by decide) (fun c23 => ?_) (fun c23 => ?_)
                · rw [if_neg c23] at hE
                  exact J21 vv10 vv11 mm13  H locs ls hE jw (lv_sub hl [0, 1, 2, 3, 4, 5, 6, 7, 8, 9] rfl)
                · rw [if_pos c23] at hE
                  refine lv_aload hx hb dX10_pairs_91 (lv_at hl 9 rfl) ?_
                  refine lv_iload hx hb dX10_pairs_93 (lv_at hl 1 rfl) ?_
                  refine lv_iload hx hb dX10_pairs_95 (lv_at hl 0 rfl) ?_
                  rcases Classical.em (j_g vv6 (j_ln Y q7)) with g24 | g24
                  case inr => rw [if_neg g24] at hE; exact absurd hE (hG21 _)
                  rw [if_pos g24] at hE
                  refine jr_iast jc jw hq7 (j_g_in g24) dX10_pairs_97 (fun H locs jw => ?_)
                  obtain ⟨mm25, emm25, hE⟩ := j_lv hE
                  rw [← emm25] at jw
                  try dsimp only at hE
                  refine lv_iload hx hb dX10_pairs_98 (lv_at hl 0 rfl) ?_
                  refine lv_iconst (v := 1) hx hb dX10_pairs_100 (by decide) ?_
                  refine lv_iadd hx hb dX10_pairs_101 ?_
                  refine lv_topi (fun vv26 evv26 => ?_)
                  replace hE := j_lu hE evv26
                  try dsimp only at hE
                  refine lv_istore (lv' := [(8, .int vv26), (11, .int vv12), (10, .int vv6), (9, .int vv11), (0, .ref (ad o)), (1, .ref (ad q1)), (2, .ref (ad q2)), (4, .int p4), (6, .int p6), (7, .ref (ad q7))]) hx hb dX10_pairs_102 hl (by decide) rfl (fun ls hl => ?_)
                  obtain ⟨vv27, evv27, hE⟩ := j_lv hE
                  try dsimp only at hE
                  refine lv_iinc (v := vv27) (lv' := [(9, .int vv27), (8, .int vv26), (11, .int vv12), (10, .int vv6), (0, .ref (ad o)), (1, .ref (ad q1)), (2, .ref (ad q2)), (4, .int p4), (6, .int p6), (7, .ref (ad q7))]) hx hb dX10_pairs_104 hl (k := 3) rfl (by rw [evv27]; rfl) (by decide) rfl (fun ls hl => ?_)
                  exact J21 vv26 vv27 mm25  H locs ls hE jw (lv_sub hl [2, 3, 0, 1, 4, 5, 6, 7, 8, 9] rfl)
        exact LP9 j_fuel vv4 vv5 vv4 mm7 H locs ls hE jw (lv_sub hl [0, 1, 2, 3, 4, 5, 6, 7, 8, 9] rfl)
  exact LP3 j_fuel p5 xx2 p3 xx1 H locs ls hE jw (lv_sub hl [0, 1, 2, 3, 4, 5, 7, 9, 10] rfl)
def lp_X10_occurs_1 (Y : JY) (p2 : Int32) (q1 : Nat) (M : JM) (p3 : Int32) (n : Nat) (vv2 : Int32) (vv3 : Int32) : Option (Int32) := match n with
  | 0 => none
  | n + 1 => if p2 ≤ vv3 then (some vv2) else (if j_g vv3 (j_ln Y q1) then (lt_ (if (M q1 vv3.toNatClampNeg) = p3 then ((1 : Int32)) else ((0 : Int32))) fun xx11 => lt_ (vv2 + xx11) fun vv9 => lt_ (vv3 + (1 : Int32)) fun vv10 => lp_X10_occurs_1 Y p2 q1 M p3 n vv9 vv10) else none)
def s_X10_occurs (Y : JY) (M : JM) (q1 : Nat) (p2 : Int32) (p3 : Int32) : Option (Int32) := (lp_X10_occurs_1 Y p2 q1 M p3 j_fuel (0 : Int32) (0 : Int32)).bind fun xx12 => some xx12
set_option maxRecDepth 100000 in
set_option maxHeartbeats 4000000 in
theorem c_X10_occurs {D : va_G} {Y : JY} {ty : Nat → ClassId} {ad : Nat → Nat} {sz : Nat} {l : Launch} {M : JM} (hY : j_ok Y) {q1 : Nat} {p2 : Int32} {p3 : Int32} (hq1 : j_kd Y q1 = 100) {r : Int32} (hE : s_X10_occurs Y M q1 p2 p3 = some r) : JMi D Y ty ad sz l yX10_occurs cX10_occurs 5 (some .int) 0 0 [.ref (ad q1), .int p2, .int p3] M r M := by
  refine j_ofI hY (by decide +kernel) (Nat.le_of_ble_eq_true rfl) (fun p e s m below meth c args R Q A hRf hRl hA jc jw kr ls hl => ?_)
  have hx := jc.1
  have hb := jc.2.1
  have hl : lv_has ls 5 [(0, .ref (ad q1)), (1, .int p2), (2, .int p3)] := hl
  unfold s_X10_occurs at hE
  obtain ⟨G0, eG0, hG0, hE⟩ := j_F0o hE
  refine lv_iconst (v := 0) hx hb dX10_occurs_0 (by decide) ?_
  refine lv_istore_n (lv' := [(3, .int (0 : Int32)), (0, .ref (ad q1)), (1, .int p2), (2, .int p3)]) hx hb dX10_occurs_1 rfl hl (by decide) rfl (fun ls hl => ?_)
  refine lv_iconst (v := 0) hx hb dX10_occurs_2 (by decide) ?_
  refine lv_istore (lv' := [(4, .int (0 : Int32)), (3, .int (0 : Int32)), (0, .ref (ad q1)), (1, .int p2), (2, .int p3)]) hx hb dX10_occurs_3 hl (by decide) rfl (fun ls hl => ?_)
  obtain ⟨G1, eG1, hG1, hE⟩ := j_ctxB hG0 hE
  have LP1 : ∀ (n : Nat) (vv2 : Int32) (vv3 : Int32) (H : Heap) (locs : List Loc) (ls : Array Slot), G1 (lp_X10_occurs_1 Y p2 q1 M p3 n vv2 vv3) = some r → JW D Y ty ad A s.heap M H locs → lv_has ls 5 [(4, .int vv3), (3, .int vv2), (0, .ref (ad q1)), (1, .int p2), (2, .int p3)] → W p l e R s m args below meth c H locs 0 0 Q (F0 m 5 ls []) := by
    intro n
    induction n with
    | zero => intro vv2 vv3 H locs ls hE jw hl; exact absurd hE (hG1 _)
    | succ n ih =>
      intro vv2 vv3 H locs ls hE jw hl
      rw [lp_X10_occurs_1] at hE
      refine lv_iload hx hb dX10_occurs_5 (lv_at hl 0 rfl) ?_
      refine lv_iload_n hx hb dX10_occurs_7 rfl (lv_at hl 3 rfl) ?_
      refine lv_icmp_ge (tgt := 33) hx hb dX10_occurs_8 (by decide) (fun c4 => ?_) (fun c4 => ?_)
      · rw [if_pos c4] at hE
        refine lv_iload_n hx hb dX10_occurs_33 rfl (lv_at hl 1 rfl) ?_
        replace hE := j_popB eG1 hE
        try dsimp only at hE
        exact kr _ _ _ _ _ _ (Option.some.inj (j_ret eG0 hE)) rfl jw dX10_occurs_34
      · rw [if_neg c4] at hE
        refine lv_iload_n hx hb dX10_occurs_11 rfl (lv_at hl 1 rfl) ?_
        refine lv_aload_n hx hb dX10_occurs_12 rfl (lv_at hl 2 rfl) ?_
        refine lv_iload hx hb dX10_occurs_13 (lv_at hl 0 rfl) ?_
        rcases Classical.em (j_g vv3 (j_ln Y q1)) with g5 | g5
        case inr => rw [if_neg g5] at hE; exact absurd hE (hG1 _)
        rw [if_pos g5] at hE
        refine jr_iald jc jw hq1 (j_g_in g5) dX10_occurs_15 ?_
        refine lv_iload_n hx hb dX10_occurs_16 rfl (lv_at hl 4 rfl) ?_
        obtain ⟨G7, eG7, hE⟩ := j_ctxL hE
        have J7 : ∀ (vv8 : Int32)  (H : Heap) (locs : List Loc) (ls : Array Slot), G7 (vv8) = some r → JW D Y ty ad A s.heap M H locs → lv_has ls 5 [(4, .int vv3), (0, .ref (ad q1)), (1, .int p2), (2, .int p3)] → W p l e R s m args below meth c H locs 0 0 Q (F0 m 25 ls [.int vv8, .int vv2]) := by
          intro vv8  H locs ls hE jw hl
          replace hE := j_popL eG7 hE
          try dsimp only at hE
          refine lv_iadd hx hb dX10_occurs_25 ?_
          refine lv_topi (fun vv9 evv9 => ?_)
          replace hE := j_lu hE evv9
          try dsimp only at hE
          refine lv_istore_n (lv' := [(3, .int vv9), (4, .int vv3), (0, .ref (ad q1)), (1, .int p2), (2, .int p3)]) hx hb dX10_occurs_26 rfl hl (by decide) rfl (fun ls hl => ?_)
          obtain ⟨vv10, evv10, hE⟩ := j_lv hE
          try dsimp only at hE
          refine lv_iinc (v := vv10) (lv' := [(4, .int vv10), (3, .int vv9), (0, .ref (ad q1)), (1, .int p2), (2, .int p3)]) hx hb dX10_occurs_27 hl (k := 1) rfl (by rw [evv10]; rfl) (by decide) rfl (fun ls hl => ?_)
          refine lv_goto (tgt := 5) hx hb dX10_occurs_30 (by decide) ?_
          exact ih vv9 vv10 H locs ls hE jw (lv_sub hl [0, 1, 2, 3, 4] rfl)
        refine lv_icmp_ne (tgt := 24) hx hb dX10_occurs_17 (by decide) (fun c6 => ?_) (fun c6 => ?_)
        · rw [if_neg c6] at hE
          refine lv_iconst (v := 0) hx hb dX10_occurs_24 (by decide) ?_
          exact J7 (0 : Int32)  H locs ls hE jw (lv_sub hl [0, 2, 3, 4] rfl)
        · rw [if_pos c6] at hE
          refine lv_iconst (v := 1) hx hb dX10_occurs_20 (by decide) ?_
          refine lv_goto (tgt := 25) hx hb dX10_occurs_21 (by decide) ?_
          exact J7 (1 : Int32)  H locs ls hE jw (lv_sub hl [0, 2, 3, 4] rfl)
  exact LP1 j_fuel (0 : Int32) (0 : Int32) s.heap [] ls hE jw (lv_sub hl [0, 1, 2, 3, 4] rfl)
def lp_X10_tellCandidates_3 (Y : JY) (p2 : Int32) (o : Nat) (vv3 : Int32) (n : Nat) (vv38 : Int32) (mm39 : JM) : Option (JM) := match n with
  | 0 => none
  | n + 1 => if p2 ≤ vv38 then (some mm39) else (if j_g vv38 (j_ln Y (j_rf Y o 20)) then (if j_g vv3 (j_ln Y (j_rf Y o 20)) then ((if (mm39 (j_rf Y o 20) vv38.toNatClampNeg) ≤ (mm39 (j_rf Y o 20) vv3.toNatClampNeg) then (if j_g vv3 (j_ln Y (j_rf Y o 21)) then (some (mm39 (j_rf Y o 21) vv3.toNatClampNeg)) else none) else (if j_g vv3 (j_ln Y (j_rf Y o 21)) then (if j_g vv38 (j_ln Y (j_rf Y o 21)) then (some (s_X10_most Y mm39 (mm39 (j_rf Y o 21) vv3.toNatClampNeg) ((1 : Int32) + (mm39 (j_rf Y o 21) vv38.toNatClampNeg)))) else none) else none)).bind fun xx52 => if j_g vv3 (j_ln Y (j_rf Y o 21)) then (lt_ (j_up mm39 (j_rf Y o 21) vv3.toNatClampNeg xx52) fun mm50 => lt_ (vv38 + (1 : Int32)) fun vv51 => lp_X10_tellCandidates_3 Y p2 o vv3 n vv51 mm50) else none) else none) else none)
def lp_X10_tellCandidates_2 (Y : JY) (p4 : Int32) (q3 : Nat) (vv3 : Int32) (q1 : Nat) (o : Nat) (n : Nat) (vv20 : Int32) (mm21 : JM) : Option (JM) := match n with
  | 0 => none
  | n + 1 => if p4 ≤ vv20 then (some mm21) else (if j_g vv20 (j_ln Y q3) then (if j_g vv3 (j_ln Y q1) then ((if (mm21 q3 vv20.toNatClampNeg) = (mm21 q1 vv3.toNatClampNeg) then (some vv20) else (if j_g vv3 (j_ln Y (j_rf Y o 20)) then (some (mm21 (j_rf Y o 20) vv3.toNatClampNeg)) else none)).bind fun xx32 => if j_g vv3 (j_ln Y (j_rf Y o 20)) then (lt_ (j_up mm21 (j_rf Y o 20) vv3.toNatClampNeg xx32) fun mm30 => lt_ (vv20 + (1 : Int32)) fun vv31 => lp_X10_tellCandidates_2 Y p4 q3 vv3 q1 o n vv31 mm30) else none) else none) else none)
def lp_X10_tellCandidates_1 (Y : JY) (o : Nat) (q1 : Nat) (p2 : Int32) (q3 : Nat) (p4 : Int32) (n : Nat) (vv3 : Int32) (mm4 : JM) : Option (JM) := match n with
  | 0 => none
  | n + 1 => if vv3 < 0 then (some mm4) else (if j_g vv3 (j_ln Y (j_rf Y o 20)) then (lt_ (j_up mm4 (j_rf Y o 20) vv3.toNatClampNeg (-1 : Int32)) fun mm8 => if j_g vv3 (j_ln Y (j_rf Y o 21)) then (lt_ (j_up mm8 (j_rf Y o 21) vv3.toNatClampNeg (0 : Int32)) fun mm11 => if j_g vv3 (j_ln Y q1) then ((s_X10_occurs Y mm11 q1 p2 (mm11 q1 vv3.toNatClampNeg)).bind fun xx13 => (if xx13 = (1 : Int32) then (if j_g vv3 (j_ln Y q1) then ((s_X10_occurs Y mm11 q3 p4 (mm11 q1 vv3.toNatClampNeg)).bind fun xx17 => if xx17 = (1 : Int32) then ((lp_X10_tellCandidates_2 Y p4 q3 vv3 q1 o j_fuel (0 : Int32) mm11).bind fun xx55 => if j_g vv3 (j_ln Y (j_rf Y o 21)) then (lt_ (j_up xx55 (j_rf Y o 21) vv3.toNatClampNeg (1 : Int32)) fun mm35 => lt_ (vv3 + (1 : Int32)) fun vv36 => (lp_X10_tellCandidates_3 Y p2 o vv3 j_fuel vv36 mm35).bind fun xx54 => some xx54) else none) else (some mm11)) else none) else (some mm11)).bind fun xx58 => lt_ (vv3 + (-1 : Int32)) fun vv57 => lp_X10_tellCandidates_1 Y o q1 p2 q3 p4 n vv57 xx58) else none) else none) else none)
def s_X10_tellCandidates (Y : JY) (M : JM) (o : Nat) (q1 : Nat) (p2 : Int32) (q3 : Nat) (p4 : Int32) : Option (JM) := lt_ (p2 - (1 : Int32)) fun vv1 => (lp_X10_tellCandidates_1 Y o q1 p2 q3 p4 j_fuel vv1 M).bind fun xx59 => some xx59
set_option maxRecDepth 100000 in
set_option maxHeartbeats 4000000 in
theorem c_X10_tellCandidates {D : va_G} {Y : JY} {ty : Nat → ClassId} {ad : Nat → Nat} {sz : Nat} {l : Launch} {M : JM} (hY : j_ok Y) {o : Nat} {q1 : Nat} {p2 : Int32} {q3 : Nat} {p4 : Int32} (ho : j_kd Y o = 10) (hq1 : j_kd Y q1 = 100) (hq3 : j_kd Y q3 = 100) {r : JM} (hE : s_X10_tellCandidates Y M o q1 p2 q3 p4 = some r) : JMv D Y ty ad sz l yX10_tellCandidates cX10_tellCandidates 7 1 24 [.ref (ad o), .ref (ad q1), .int p2, .ref (ad q3), .int p4] M r := by
  refine j_ofV hY (by decide +kernel) (Nat.le_of_ble_eq_true rfl) (fun p e s m below meth c args R Q A hRf hRl hA jc jw kr ls hl => ?_)
  have hx := jc.1
  have hb := jc.2.1
  have hl : lv_has ls 7 [(0, .ref (ad o)), (1, .ref (ad q1)), (2, .int p2), (3, .ref (ad q3)), (4, .int p4)] := hl
  unfold s_X10_tellCandidates at hE
  obtain ⟨G0, eG0, hG0, hE⟩ := j_F0o hE
  refine lv_iload_n hx hb dX10_tellCandidates_0 rfl (lv_at hl 2 rfl) ?_
  refine lv_iconst (v := 1) hx hb dX10_tellCandidates_1 (by decide) ?_
  refine lv_isub hx hb dX10_tellCandidates_2 ?_
  refine lv_topi (fun vv1 evv1 => ?_)
  replace hE := j_lu hE evv1
  try dsimp only at hE
  refine lv_istore (lv' := [(5, .int vv1), (0, .ref (ad o)), (1, .ref (ad q1)), (2, .int p2), (3, .ref (ad q3)), (4, .int p4)]) hx hb dX10_tellCandidates_3 hl (by decide) rfl (fun ls hl => ?_)
  obtain ⟨G2, eG2, hG2, hE⟩ := j_ctxB hG0 hE
  have LP2 : ∀ (n : Nat) (vv3 : Int32) (mm4 : JM) (H : Heap) (locs : List Loc) (ls : Array Slot), G2 (lp_X10_tellCandidates_1 Y o q1 p2 q3 p4 n vv3 mm4) = some r → JW D Y ty ad A s.heap mm4 H locs → lv_has ls 7 [(5, .int vv3), (0, .ref (ad o)), (1, .ref (ad q1)), (2, .int p2), (3, .ref (ad q3)), (4, .int p4)] → W p l e R s m args below meth c H locs 0 0 Q (F0 m 5 ls []) := by
    intro n
    induction n with
    | zero => intro vv3 mm4 H locs ls hE jw hl; exact absurd hE (hG2 _)
    | succ n ih =>
      intro vv3 mm4 H locs ls hE jw hl
      rw [lp_X10_tellCandidates_1] at hE
      refine lv_iload hx hb dX10_tellCandidates_5 (lv_at hl 0 rfl) ?_
      refine lv_if_lt (tgt := 184) hx hb dX10_tellCandidates_7 (by decide) (fun c5 => ?_) (fun c5 => ?_)
      · rw [if_pos c5] at hE
        replace hE := j_popB eG2 hE
        try dsimp only at hE
        exact kr _ _ _ _ _ (Option.some.inj (j_ret eG0 hE)) jw dX10_tellCandidates_184
      · rw [if_neg c5] at hE
        refine lv_aload_n hx hb dX10_tellCandidates_10 rfl (lv_at hl 1 rfl) ?_
        refine jg_10_20 jc jw ho wd_6_79 dX10_tellCandidates_11 ?_
        have k6 := j_sub hY ho 20 (f := 100) rfl (by decide) (by decide) (by decide)
        refine lv_iload hx hb dX10_tellCandidates_14 (lv_at hl 0 rfl) ?_
        refine lv_iconst (v := -1) hx hb dX10_tellCandidates_16 (by decide) ?_
        rcases Classical.em (j_g vv3 (j_ln Y (j_rf Y o 20))) with g7 | g7
        case inr => rw [if_neg g7] at hE; exact absurd hE (hG2 _)
        rw [if_pos g7] at hE
        refine jr_iast jc jw k6 (j_g_in g7) dX10_tellCandidates_17 (fun H locs jw => ?_)
        obtain ⟨mm8, emm8, hE⟩ := j_lv hE
        rw [← emm8] at jw
        try dsimp only at hE
        refine lv_aload_n hx hb dX10_tellCandidates_18 rfl (lv_at hl 1 rfl) ?_
        refine jg_10_21 jc jw ho wd_6_80 dX10_tellCandidates_19 ?_
        have k9 := j_sub hY ho 21 (f := 100) rfl (by decide) (by decide) (by decide)
        refine lv_iload hx hb dX10_tellCandidates_22 (lv_at hl 0 rfl) ?_
        refine lv_iconst (v := 0) hx hb dX10_tellCandidates_24 (by decide) ?_
        rcases Classical.em (j_g vv3 (j_ln Y (j_rf Y o 21))) with g10 | g10
        case inr => rw [if_neg g10] at hE; exact absurd hE (hG2 _)
        rw [if_pos g10] at hE
        refine jr_iast jc jw k9 (j_g_in g10) dX10_tellCandidates_25 (fun H locs jw => ?_)
        obtain ⟨mm11, emm11, hE⟩ := j_lv hE
        rw [← emm11] at jw
        try dsimp only at hE
        refine lv_aload_n hx hb dX10_tellCandidates_26 rfl (lv_at hl 2 rfl) ?_
        refine lv_iload_n hx hb dX10_tellCandidates_27 rfl (lv_at hl 3 rfl) ?_
        refine lv_aload_n hx hb dX10_tellCandidates_28 rfl (lv_at hl 2 rfl) ?_
        refine lv_iload hx hb dX10_tellCandidates_29 (lv_at hl 0 rfl) ?_
        rcases Classical.em (j_g vv3 (j_ln Y q1)) with g12 | g12
        case inr => rw [if_neg g12] at hE; exact absurd hE (hG2 _)
        rw [if_pos g12] at hE
        refine jr_iald jc jw hq1 (j_g_in g12) dX10_tellCandidates_31 ?_
        obtain ⟨xx13, exx13, hE⟩ := j_bd hG2 hE
        try dsimp only at hE
        refine jc_si [.ref (ad q1), .int p2, .int (mm11 q1 vv3.toNatClampNeg)] [] jc jw hA (c_X10_occurs hY hq1 (M := mm11) exx13) sd_X10_189 rfl hl.1 (j_hR hRf hRl rfl rfl) (Nat.le_of_ble_eq_true rfl) dX10_tellCandidates_32 (fun H locs jw => ?_)
        refine lv_iconst (v := 1) hx hb dX10_tellCandidates_35 (by decide) ?_
        obtain ⟨G15, eG15, hG15, hE⟩ := j_ctxB hG2 hE
        have J15 : ∀ (mm56 : JM)  (H : Heap) (locs : List Loc) (ls : Array Slot), G15 (some mm56) = some r → JW D Y ty ad A s.heap mm56 H locs → lv_has ls 7 [(5, .int vv3), (0, .ref (ad o)), (1, .ref (ad q1)), (2, .int p2), (3, .ref (ad q3)), (4, .int p4)] → W p l e R s m args below meth c H locs 0 0 Q (F0 m 178 ls []) := by
          intro mm56  H locs ls hE jw hl
          replace hE := j_popB eG15 hE
          try dsimp only at hE
          obtain ⟨vv57, evv57, hE⟩ := j_lv hE
          try dsimp only at hE
          refine lv_iinc (v := vv57) (lv' := [(5, .int vv57), (0, .ref (ad o)), (1, .ref (ad q1)), (2, .int p2), (3, .ref (ad q3)), (4, .int p4)]) hx hb dX10_tellCandidates_178 hl (k := 0) rfl (by rw [evv57]; rfl) (by decide) rfl (fun ls hl => ?_)
          refine lv_goto (tgt := 5) hx hb dX10_tellCandidates_181 (by decide) ?_
          exact ih vv57 mm56 H locs ls hE jw (lv_sub hl [0, 1, 2, 3, 4, 5] rfl)
        refine lv_icmp_ne (tgt := 178) hx hb dX10_tellCandidates_36 (by decide) (fun c14 => ?_) (fun c14 => ?_)
        · rw [if_neg c14] at hE
          exact J15 mm11  H locs ls hE jw (lv_sub hl [0, 1, 2, 3, 4, 5] rfl)
        · rw [if_pos c14] at hE
          refine lv_aload_n hx hb dX10_tellCandidates_39 rfl (lv_at hl 4 rfl) ?_
          refine lv_iload hx hb dX10_tellCandidates_40 (lv_at hl 5 rfl) ?_
          refine lv_aload_n hx hb dX10_tellCandidates_42 rfl (lv_at hl 2 rfl) ?_
          refine lv_iload hx hb dX10_tellCandidates_43 (lv_at hl 0 rfl) ?_
          rcases Classical.em (j_g vv3 (j_ln Y q1)) with g16 | g16
          case inr => rw [if_neg g16] at hE; exact absurd hE (hG15 _)
          rw [if_pos g16] at hE
          refine jr_iald jc jw hq1 (j_g_in g16) dX10_tellCandidates_45 ?_
          obtain ⟨xx17, exx17, hE⟩ := j_bd hG15 hE
          try dsimp only at hE
          refine jc_si [.ref (ad q3), .int p4, .int (mm11 q1 vv3.toNatClampNeg)] [] jc jw hA (c_X10_occurs hY hq3 (M := mm11) exx17) sd_X10_189 rfl hl.1 (j_hR hRf hRl rfl rfl) (Nat.le_of_ble_eq_true rfl) dX10_tellCandidates_46 (fun H locs jw => ?_)
          refine lv_iconst (v := 1) hx hb dX10_tellCandidates_49 (by decide) ?_
          refine lv_icmp_ne (tgt := 178) hx hb dX10_tellCandidates_50 (by decide) (fun c18 => ?_) (fun c18 => ?_)
          · rw [if_neg c18] at hE
            exact J15 mm11  H locs ls hE jw (lv_sub hl [0, 1, 2, 3, 4, 5] rfl)
          · rw [if_pos c18] at hE
            refine lv_iconst (v := 0) hx hb dX10_tellCandidates_53 (by decide) ?_
            refine lv_istore (lv' := [(6, .int (0 : Int32)), (5, .int vv3), (0, .ref (ad o)), (1, .ref (ad q1)), (2, .int p2), (3, .ref (ad q3)), (4, .int p4)]) hx hb dX10_tellCandidates_54 hl (by decide) rfl (fun ls hl => ?_)
            obtain ⟨G19, eG19, hG19, hE⟩ := j_ctxB hG15 hE
            have E19_99 : ∀ (mm33 : JM)  (H : Heap) (locs : List Loc) (ls : Array Slot), G19 (some mm33) = some r → JW D Y ty ad A s.heap mm33 H locs → lv_has ls 7 [(5, .int vv3), (0, .ref (ad o)), (1, .ref (ad q1)), (2, .int p2), (3, .ref (ad q3)), (4, .int p4)] → W p l e R s m args below meth c H locs 0 0 Q (F0 m 99 ls []) := by
              intro mm33  H locs ls hE jw hl
              replace hE := j_popB eG19 hE
              try dsimp only at hE
              refine lv_aload_n hx hb dX10_tellCandidates_99 rfl (lv_at hl 1 rfl) ?_
              refine jg_10_21 jc jw ho wd_6_80 dX10_tellCandidates_100 ?_
              refine lv_iload hx hb dX10_tellCandidates_103 (lv_at hl 0 rfl) ?_
              refine lv_iconst (v := 1) hx hb dX10_tellCandidates_105 (by decide) ?_
              rcases Classical.em (j_g vv3 (j_ln Y (j_rf Y o 21))) with g34 | g34
              case inr => rw [if_neg g34] at hE; exact absurd hE (hG15 _)
              rw [if_pos g34] at hE
              refine jr_iast jc jw k9 (j_g_in g34) dX10_tellCandidates_106 (fun H locs jw => ?_)
              obtain ⟨mm35, emm35, hE⟩ := j_lv hE
              rw [← emm35] at jw
              try dsimp only at hE
              refine lv_iload hx hb dX10_tellCandidates_107 (lv_at hl 0 rfl) ?_
              refine lv_iconst (v := 1) hx hb dX10_tellCandidates_109 (by decide) ?_
              refine lv_iadd hx hb dX10_tellCandidates_110 ?_
              refine lv_topi (fun vv36 evv36 => ?_)
              replace hE := j_lu hE evv36
              try dsimp only at hE
              refine lv_istore (lv' := [(6, .int vv36), (5, .int vv3), (0, .ref (ad o)), (1, .ref (ad q1)), (2, .int p2), (3, .ref (ad q3)), (4, .int p4)]) hx hb dX10_tellCandidates_111 hl (by decide) rfl (fun ls hl => ?_)
              obtain ⟨G37, eG37, hG37, hE⟩ := j_ctxB hG15 hE
              have E37_178 : ∀ (mm53 : JM)  (H : Heap) (locs : List Loc) (ls : Array Slot), G37 (some mm53) = some r → JW D Y ty ad A s.heap mm53 H locs → lv_has ls 7 [(5, .int vv3), (0, .ref (ad o)), (1, .ref (ad q1)), (2, .int p2), (3, .ref (ad q3)), (4, .int p4)] → W p l e R s m args below meth c H locs 0 0 Q (F0 m 178 ls []) := by
                intro mm53  H locs ls hE jw hl
                replace hE := j_popB eG37 hE
                try dsimp only at hE
                exact J15 mm53  H locs ls hE jw (lv_sub hl [0, 1, 2, 3, 4, 5] rfl)
              have LP37 : ∀ (n : Nat) (vv38 : Int32) (mm39 : JM) (H : Heap) (locs : List Loc) (ls : Array Slot), G37 (lp_X10_tellCandidates_3 Y p2 o vv3 n vv38 mm39) = some r → JW D Y ty ad A s.heap mm39 H locs → lv_has ls 7 [(6, .int vv38), (5, .int vv3), (0, .ref (ad o)), (1, .ref (ad q1)), (2, .int p2), (3, .ref (ad q3)), (4, .int p4)] → W p l e R s m args below meth c H locs 0 0 Q (F0 m 113 ls []) := by
                intro n
                induction n with
                | zero => intro vv38 mm39 H locs ls hE jw hl; exact absurd hE (hG37 _)
                | succ n ih =>
                  intro vv38 mm39 H locs ls hE jw hl
                  rw [lp_X10_tellCandidates_3] at hE
                  refine lv_iload hx hb dX10_tellCandidates_113 (lv_at hl 0 rfl) ?_
                  refine lv_iload_n hx hb dX10_tellCandidates_115 rfl (lv_at hl 4 rfl) ?_
                  refine lv_icmp_ge (tgt := 178) hx hb dX10_tellCandidates_116 (by decide) (fun c40 => ?_) (fun c40 => ?_)
                  · rw [if_pos c40] at hE
                    exact E37_178 mm39  H locs ls hE jw (lv_sub hl [1, 2, 3, 4, 5, 6] rfl)
                  · rw [if_neg c40] at hE
                    refine lv_aload_n hx hb dX10_tellCandidates_119 rfl (lv_at hl 2 rfl) ?_
                    refine jg_10_21 jc jw ho wd_6_80 dX10_tellCandidates_120 ?_
                    refine lv_iload hx hb dX10_tellCandidates_123 (lv_at hl 1 rfl) ?_
                    refine lv_aload_n hx hb dX10_tellCandidates_125 rfl (lv_at hl 2 rfl) ?_
                    refine jg_10_20 jc jw ho wd_6_79 dX10_tellCandidates_126 ?_
                    refine lv_iload hx hb dX10_tellCandidates_129 (lv_at hl 0 rfl) ?_
                    rcases Classical.em (j_g vv38 (j_ln Y (j_rf Y o 20))) with g41 | g41
                    case inr => rw [if_neg g41] at hE; exact absurd hE (hG37 _)
                    rw [if_pos g41] at hE
                    refine jr_iald jc jw k6 (j_g_in g41) dX10_tellCandidates_131 ?_
                    refine lv_aload_n hx hb dX10_tellCandidates_132 rfl (lv_at hl 2 rfl) ?_
                    refine jg_10_20 jc jw ho wd_6_79 dX10_tellCandidates_133 ?_
                    refine lv_iload hx hb dX10_tellCandidates_136 (lv_at hl 1 rfl) ?_
                    rcases Classical.em (j_g vv3 (j_ln Y (j_rf Y o 20))) with g42 | g42
                    case inr => rw [if_neg g42] at hE; exact absurd hE (hG37 _)
                    rw [if_pos g42] at hE
                    refine jr_iald jc jw k6 (j_g_in g42) dX10_tellCandidates_138 ?_
                    obtain ⟨G44, eG44, hG44, hE⟩ := j_ctxB hG37 hE
                    have J44 : ∀ (vv48 : Int32)  (H : Heap) (locs : List Loc) (ls : Array Slot), G44 (some vv48) = some r → JW D Y ty ad A s.heap mm39 H locs → lv_has ls 7 [(6, .int vv38), (5, .int vv3), (0, .ref (ad o)), (1, .ref (ad q1)), (2, .int p2), (3, .ref (ad q3)), (4, .int p4)] → W p l e R s m args below meth c H locs 0 0 Q (F0 m 171 ls [.int vv48, .int vv3, .ref (ad (j_rf Y o 21))]) := by
                      intro vv48  H locs ls hE jw hl
                      replace hE := j_popB eG44 hE
                      try dsimp only at hE
                      rcases Classical.em (j_g vv3 (j_ln Y (j_rf Y o 21))) with g49 | g49
                      case inr => rw [if_neg g49] at hE; exact absurd hE (hG37 _)
                      rw [if_pos g49] at hE
                      refine jr_iast jc jw k9 (j_g_in g49) dX10_tellCandidates_171 (fun H locs jw => ?_)
                      obtain ⟨mm50, emm50, hE⟩ := j_lv hE
                      rw [← emm50] at jw
                      try dsimp only at hE
                      obtain ⟨vv51, evv51, hE⟩ := j_lv hE
                      try dsimp only at hE
                      refine lv_iinc (v := vv51) (lv' := [(6, .int vv51), (5, .int vv3), (0, .ref (ad o)), (1, .ref (ad q1)), (2, .int p2), (3, .ref (ad q3)), (4, .int p4)]) hx hb dX10_tellCandidates_172 hl (k := 0) rfl (by rw [evv51]; rfl) (by decide) rfl (fun ls hl => ?_)
                      refine lv_goto (tgt := 113) hx hb dX10_tellCandidates_175 (by decide) ?_
                      exact ih vv51 mm50 H locs ls hE jw (lv_sub hl [0, 1, 2, 3, 4, 5, 6] rfl)
                    refine lv_icmp_le (tgt := 164) hx hb dX10_tellCandidates_139 (by decide) (fun c43 => ?_) (fun c43 => ?_)
                    · rw [if_pos c43] at hE
                      refine lv_aload_n hx hb dX10_tellCandidates_164 rfl (lv_at hl 2 rfl) ?_
                      refine jg_10_21 jc jw ho wd_6_80 dX10_tellCandidates_165 ?_
                      refine lv_iload hx hb dX10_tellCandidates_168 (lv_at hl 1 rfl) ?_
                      rcases Classical.em (j_g vv3 (j_ln Y (j_rf Y o 21))) with g45 | g45
                      case inr => rw [if_neg g45] at hE; exact absurd hE (hG44 _)
                      rw [if_pos g45] at hE
                      refine jr_iald jc jw k9 (j_g_in g45) dX10_tellCandidates_170 ?_
                      exact J44 (mm39 (j_rf Y o 21) vv3.toNatClampNeg)  H locs ls hE jw (lv_sub hl [0, 1, 2, 3, 4, 5, 6] rfl)
                    · rw [if_neg c43] at hE
                      refine lv_aload_n hx hb dX10_tellCandidates_142 rfl (lv_at hl 2 rfl) ?_
                      refine jg_10_21 jc jw ho wd_6_80 dX10_tellCandidates_143 ?_
                      refine lv_iload hx hb dX10_tellCandidates_146 (lv_at hl 1 rfl) ?_
                      rcases Classical.em (j_g vv3 (j_ln Y (j_rf Y o 21))) with g46 | g46
                      case inr => rw [if_neg g46] at hE; exact absurd hE (hG44 _)
                      rw [if_pos g46] at hE
                      refine jr_iald jc jw k9 (j_g_in g46) dX10_tellCandidates_148 ?_
                      refine lv_iconst (v := 1) hx hb dX10_tellCandidates_149 (by decide) ?_
                      refine lv_aload_n hx hb dX10_tellCandidates_150 rfl (lv_at hl 2 rfl) ?_
                      refine jg_10_21 jc jw ho wd_6_80 dX10_tellCandidates_151 ?_
                      refine lv_iload hx hb dX10_tellCandidates_154 (lv_at hl 0 rfl) ?_
                      rcases Classical.em (j_g vv38 (j_ln Y (j_rf Y o 21))) with g47 | g47
                      case inr => rw [if_neg g47] at hE; exact absurd hE (hG44 _)
                      rw [if_pos g47] at hE
                      refine jr_iald jc jw k9 (j_g_in g47) dX10_tellCandidates_156 ?_
                      refine lv_iadd hx hb dX10_tellCandidates_157 ?_
                      refine jc_si [.int (mm39 (j_rf Y o 21) vv3.toNatClampNeg), .int ((1 : Int32) + (mm39 (j_rf Y o 21) vv38.toNatClampNeg))] [.int vv3, .ref (ad (j_rf Y o 21))] jc jw hA (c_X10_most hY  (M := mm39) rfl) sd_X10_182 rfl hl.1 (j_hR hRf hRl rfl rfl) (Nat.le_of_ble_eq_true rfl) dX10_tellCandidates_158 (fun H locs jw => ?_)
                      refine lv_goto (tgt := 171) hx hb dX10_tellCandidates_161 (by decide) ?_
                      exact J44 (s_X10_most Y mm39 (mm39 (j_rf Y o 21) vv3.toNatClampNeg) ((1 : Int32) + (mm39 (j_rf Y o 21) vv38.toNatClampNeg)))  H locs ls hE jw (lv_sub hl [0, 1, 2, 3, 4, 5, 6] rfl)
              exact LP37 j_fuel vv36 mm35 H locs ls hE jw (lv_sub hl [0, 1, 2, 3, 4, 5, 6] rfl)
            have LP19 : ∀ (n : Nat) (vv20 : Int32) (mm21 : JM) (H : Heap) (locs : List Loc) (ls : Array Slot), G19 (lp_X10_tellCandidates_2 Y p4 q3 vv3 q1 o n vv20 mm21) = some r → JW D Y ty ad A s.heap mm21 H locs → lv_has ls 7 [(6, .int vv20), (5, .int vv3), (0, .ref (ad o)), (1, .ref (ad q1)), (2, .int p2), (3, .ref (ad q3)), (4, .int p4)] → W p l e R s m args below meth c H locs 0 0 Q (F0 m 56 ls []) := by
              intro n
              induction n with
              | zero => intro vv20 mm21 H locs ls hE jw hl; exact absurd hE (hG19 _)
              | succ n ih =>
                intro vv20 mm21 H locs ls hE jw hl
                rw [lp_X10_tellCandidates_2] at hE
                refine lv_iload hx hb dX10_tellCandidates_56 (lv_at hl 0 rfl) ?_
                refine lv_iload hx hb dX10_tellCandidates_58 (lv_at hl 6 rfl) ?_
                refine lv_icmp_ge (tgt := 99) hx hb dX10_tellCandidates_60 (by decide) (fun c22 => ?_) (fun c22 => ?_)
                · rw [if_pos c22] at hE
                  exact E19_99 mm21  H locs ls hE jw (lv_sub hl [1, 2, 3, 4, 5, 6] rfl)
                · rw [if_neg c22] at hE
                  refine lv_aload_n hx hb dX10_tellCandidates_63 rfl (lv_at hl 2 rfl) ?_
                  refine jg_10_20 jc jw ho wd_6_79 dX10_tellCandidates_64 ?_
                  refine lv_iload hx hb dX10_tellCandidates_67 (lv_at hl 1 rfl) ?_
                  refine lv_aload_n hx hb dX10_tellCandidates_69 rfl (lv_at hl 5 rfl) ?_
                  refine lv_iload hx hb dX10_tellCandidates_70 (lv_at hl 0 rfl) ?_
                  rcases Classical.em (j_g vv20 (j_ln Y q3)) with g23 | g23
                  case inr => rw [if_neg g23] at hE; exact absurd hE (hG19 _)
                  rw [if_pos g23] at hE
                  refine jr_iald jc jw hq3 (j_g_in g23) dX10_tellCandidates_72 ?_
                  refine lv_aload_n hx hb dX10_tellCandidates_73 rfl (lv_at hl 3 rfl) ?_
                  refine lv_iload hx hb dX10_tellCandidates_74 (lv_at hl 1 rfl) ?_
                  rcases Classical.em (j_g vv3 (j_ln Y q1)) with g24 | g24
                  case inr => rw [if_neg g24] at hE; exact absurd hE (hG19 _)
                  rw [if_pos g24] at hE
                  refine jr_iald jc jw hq1 (j_g_in g24) dX10_tellCandidates_76 ?_
                  obtain ⟨G26, eG26, hG26, hE⟩ := j_ctxB hG19 hE
                  have J26 : ∀ (vv28 : Int32)  (H : Heap) (locs : List Loc) (ls : Array Slot), G26 (some vv28) = some r → JW D Y ty ad A s.heap mm21 H locs → lv_has ls 7 [(6, .int vv20), (5, .int vv3), (0, .ref (ad o)), (1, .ref (ad q1)), (2, .int p2), (3, .ref (ad q3)), (4, .int p4)] → W p l e R s m args below meth c H locs 0 0 Q (F0 m 92 ls [.int vv28, .int vv3, .ref (ad (j_rf Y o 20))]) := by
                    intro vv28  H locs ls hE jw hl
                    replace hE := j_popB eG26 hE
                    try dsimp only at hE
                    rcases Classical.em (j_g vv3 (j_ln Y (j_rf Y o 20))) with g29 | g29
                    case inr => rw [if_neg g29] at hE; exact absurd hE (hG19 _)
                    rw [if_pos g29] at hE
                    refine jr_iast jc jw k6 (j_g_in g29) dX10_tellCandidates_92 (fun H locs jw => ?_)
                    obtain ⟨mm30, emm30, hE⟩ := j_lv hE
                    rw [← emm30] at jw
                    try dsimp only at hE
                    obtain ⟨vv31, evv31, hE⟩ := j_lv hE
                    try dsimp only at hE
                    refine lv_iinc (v := vv31) (lv' := [(6, .int vv31), (5, .int vv3), (0, .ref (ad o)), (1, .ref (ad q1)), (2, .int p2), (3, .ref (ad q3)), (4, .int p4)]) hx hb dX10_tellCandidates_93 hl (k := 0) rfl (by rw [evv31]; rfl) (by decide) rfl (fun ls hl => ?_)
                    refine lv_goto (tgt := 56) hx hb dX10_tellCandidates_96 (by decide) ?_
                    exact ih vv31 mm30 H locs ls hE jw (lv_sub hl [0, 1, 2, 3, 4, 5, 6] rfl)
                  refine lv_icmp_ne (tgt := 85) hx hb dX10_tellCandidates_77 (by decide) (fun c25 => ?_) (fun c25 => ?_)
                  · rw [if_neg c25] at hE
                    refine lv_aload_n hx hb dX10_tellCandidates_85 rfl (lv_at hl 2 rfl) ?_
                    refine jg_10_20 jc jw ho wd_6_79 dX10_tellCandidates_86 ?_
                    refine lv_iload hx hb dX10_tellCandidates_89 (lv_at hl 1 rfl) ?_
                    rcases Classical.em (j_g vv3 (j_ln Y (j_rf Y o 20))) with g27 | g27
                    case inr => rw [if_neg g27] at hE; exact absurd hE (hG26 _)
                    rw [if_pos g27] at hE
                    refine jr_iald jc jw k6 (j_g_in g27) dX10_tellCandidates_91 ?_
                    exact J26 (mm21 (j_rf Y o 20) vv3.toNatClampNeg)  H locs ls hE jw (lv_sub hl [0, 1, 2, 3, 4, 5, 6] rfl)
                  · rw [if_pos c25] at hE
                    refine lv_iload hx hb dX10_tellCandidates_80 (lv_at hl 0 rfl) ?_
                    refine lv_goto (tgt := 92) hx hb dX10_tellCandidates_82 (by decide) ?_
                    exact J26 vv20  H locs ls hE jw (lv_sub hl [0, 1, 2, 3, 4, 5, 6] rfl)
            exact LP19 j_fuel (0 : Int32) mm11 H locs ls hE jw (lv_sub hl [0, 1, 2, 3, 4, 5, 6] rfl)
  exact LP2 j_fuel vv1 M s.heap [] ls hE jw (lv_sub hl [0, 1, 2, 3, 4, 5] rfl)

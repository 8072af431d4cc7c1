def lp_X10_resolve_1 (Y : JY) (o : Nat) (p2 : Int32) (n : Nat) (vv13 : Int32) (vv14 : Int32) (mm15 : JM) : Option (JM) := match n with
  | 0 => none
  | n + 1 => if (mm15 o 48) ≤ vv14 then (some mm15) else (if j_g ((7 : Int32) * vv14) (j_ln Y (j_rf Y o 47)) then ((if (mm15 (j_rf Y o 47) ((7 : Int32) * vv14).toNatClampNeg) = (4 : Int32) then ((if vv13 = 0 then (lt_ (j_up mm15 o 18 (0 : Int32)) fun mm23 => (s_X10_resolvedOut Y mm23 o ((7 : Int32) * vv14) p2).bind fun xx24 => some xx24) else (some mm15)).bind fun xx27 => lt_ (vv13 + (-1 : Int32)) fun vv26 => some (vv26, xx27)) else (some (vv13, mm15))).bind fun xx31 => lt_ (vv14 + (1 : Int32)) fun vv30 => lp_X10_resolve_1 Y o p2 n xx31.1 vv30 xx31.2) else none)
def s_X10_resolve (Y : JY) (M : JM) (o : Nat) (p1 : Int32) (p2 : Int32) : Option (Int32 × JM) := if (j_z (M o 38)) = 0 then (lt_ (s_X10_fails Y M o (1 : Int32)) fun xx2 => some (xx2.1, xx2.2)) else (if (s_X10_in Y M p1 (0 : Int32) ((M o 50) - (1 : Int32))) = 0 then (lt_ (s_X10_fails Y M o (2 : Int32)) fun xx5 => some (xx5.1, xx5.2)) else (if (s_X10_in Y M p2 (0 : Int32) (4 : Int32)) = 0 then (lt_ (s_X10_fails Y M o (3 : Int32)) fun xx8 => some (xx8.1, xx8.2)) else (if j_g p1 (j_ln Y (j_rf Y o 49)) then (lt_ (j_up M (j_rf Y o 49) p1.toNatClampNeg p2) fun mm11 => (lp_X10_resolve_1 Y o p2 j_fuel p1 (0 : Int32) mm11).bind fun xx34 => lt_ (s_X10_done Y xx34 o (xx34 o 18)) fun xx33 => some (xx33.1, xx33.2)) else none)))
set_option maxRecDepth 100000 in
set_option maxHeartbeats 4000000 in
theorem c_X10_resolve {D : va_G} {Y : JY} {ty : Nat → ClassId} {ad : Nat → Nat} {sz : Nat} {l : Launch} {M : JM} (hY : j_ok Y) {o : Nat} {p1 : Int32} {p2 : Int32} (ho : j_kd Y o = 10) {r : Int32 × JM} (hE : s_X10_resolve Y M o p1 p2 = some r) : JMi D Y ty ad sz l yX10_resolve cX10_resolve 5 (some .int) 2 46 [.ref (ad o), .int p1, .int p2] M r.1 r.2 := by
  refine j_ofI hY (by decide +kernel) (Nat.le_of_ble_eq_true rfl) (fun p e s m below meth c args R Q A hRf hRl hA jc jw kr ls hl => ?_)
  have hx := jc.1
  have hb := jc.2.1
  have hl : lv_has ls 5 [(0, .ref (ad o)), (1, .int p1), (2, .int p2)] := hl
  unfold s_X10_resolve at hE
  obtain ⟨G0, eG0, hG0, hE⟩ := j_F0o hE
  refine lv_aload_n hx hb dX10_resolve_0 rfl (lv_at hl 0 rfl) ?_
  refine jg_10_38 jc jw ho wd_6_97 dX10_resolve_1 ?_
  refine lv_if_ne (tgt := 13) hx hb dX10_resolve_4 (by decide) (fun c1 => ?_) (fun c1 => ?_)
  · rw [if_neg c1] at hE
    refine lv_iload_n hx hb dX10_resolve_13 rfl (lv_at hl 1 rfl) ?_
    refine lv_iconst (v := 0) hx hb dX10_resolve_14 (by decide) ?_
    refine lv_aload_n hx hb dX10_resolve_15 rfl (lv_at hl 0 rfl) ?_
    refine jg_10_50 jc jw ho wd_6_109 dX10_resolve_16 ?_
    refine lv_iconst (v := 1) hx hb dX10_resolve_19 (by decide) ?_
    refine lv_isub hx hb dX10_resolve_20 ?_
    refine jc_sz [.int p1, .int (0 : Int32), .int ((M o 50) - (1 : Int32))] [] jc jw hA (c_X10_in hY  (M := M) rfl) sd_X10_119 rfl hl.1 (j_hR hRf hRl rfl rfl) (Nat.le_of_ble_eq_true rfl) dX10_resolve_21 (fun H locs jw hz => ?_)
    have z_3 := hz
    refine lv_if_ne (tgt := 33) hx hb dX10_resolve_24 (by decide) (fun c4 => ?_) (fun c4 => ?_)
    · rw [if_neg c4] at hE
      refine lv_iload_n hx hb dX10_resolve_33 rfl (lv_at hl 2 rfl) ?_
      refine lv_iconst (v := 0) hx hb dX10_resolve_34 (by decide) ?_
      refine lv_iconst (v := 4) hx hb dX10_resolve_35 (by decide) ?_
      refine jc_sz [.int p2, .int (0 : Int32), .int (4 : Int32)] [] jc jw hA (c_X10_in hY  (M := M) rfl) sd_X10_119 rfl hl.1 (j_hR hRf hRl rfl rfl) (Nat.le_of_ble_eq_true rfl) dX10_resolve_36 (fun H locs jw hz => ?_)
      have z_6 := hz
      refine lv_if_ne (tgt := 48) hx hb dX10_resolve_39 (by decide) (fun c7 => ?_) (fun c7 => ?_)
      · rw [if_neg c7] at hE
        refine lv_aload_n hx hb dX10_resolve_48 rfl (lv_at hl 0 rfl) ?_
        refine jg_10_49 jc jw ho wd_6_108 dX10_resolve_49 ?_
        have k9 := j_sub hY ho 49 (f := 100) rfl (by decide) (by decide) (by decide)
        refine lv_iload_n hx hb dX10_resolve_52 rfl (lv_at hl 1 rfl) ?_
        refine lv_iload_n hx hb dX10_resolve_53 rfl (lv_at hl 2 rfl) ?_
        rcases Classical.em (j_g p1 (j_ln Y (j_rf Y o 49))) with g10 | g10
        case inr => rw [if_neg g10] at hE; exact absurd hE (hG0 _)
        rw [if_pos g10] at hE
        refine jr_iast jc jw k9 (j_g_in g10) dX10_resolve_54 (fun H locs jw => ?_)
        obtain ⟨mm11, emm11, hE⟩ := j_lv hE
        rw [← emm11] at jw
        try dsimp only at hE
        refine lv_iload_n hx hb dX10_resolve_55 rfl (lv_at hl 1 rfl) ?_
        refine lv_istore_n (lv' := [(3, .int p1), (0, .ref (ad o)), (1, .int p1), (2, .int p2)]) hx hb dX10_resolve_56 rfl hl (by decide) rfl (fun ls hl => ?_)
        refine lv_iconst (v := 0) hx hb dX10_resolve_57 (by decide) ?_
        refine lv_istore (lv' := [(4, .int (0 : Int32)), (3, .int p1), (0, .ref (ad o)), (1, .int p1), (2, .int p2)]) hx hb dX10_resolve_58 hl (by decide) rfl (fun ls hl => ?_)
        obtain ⟨G12, eG12, hG12, hE⟩ := j_ctxB hG0 hE
        have E12_111 : ∀ (mm32 : JM)  (H : Heap) (locs : List Loc) (ls : Array Slot), G12 (some mm32) = some r → JW D Y ty ad A s.heap mm32 H locs → lv_has ls 5 [(0, .ref (ad o))] → W p l e R s m args below meth c H locs 0 0 Q (F0 m 111 ls []) := by
          intro mm32  H locs ls hE jw hl
          replace hE := j_popB eG12 hE
          try dsimp only at hE
          refine lv_aload_n hx hb dX10_resolve_111 rfl (lv_at hl 0 rfl) ?_
          refine lv_aload_n hx hb dX10_resolve_112 rfl (lv_at hl 0 rfl) ?_
          refine jg_10_18 jc jw ho wd_6_77 dX10_resolve_113 ?_
          obtain ⟨xx33, exx33, hE⟩ := j_lv hE
          try dsimp only at hE
          refine jc_vi [.int (mm32 o 18)] [] jc jw hA ho (by decide) rfl (c_X10_done hY ho (M := mm32) exx33.symm) sd_X10_138 rfl hl.1 (j_hR hRf hRl rfl rfl) (Nat.le_of_ble_eq_true rfl) dX10_resolve_116 (fun H locs jw => ?_)
          exact kr _ _ _ _ _ _ (congrArg Prod.fst (Option.some.inj (j_ret eG0 hE))) (congrArg Prod.snd (Option.some.inj (j_ret eG0 hE))) jw dX10_resolve_119
        have LP12 : ∀ (n : Nat) (vv13 : Int32) (vv14 : Int32) (mm15 : JM) (H : Heap) (locs : List Loc) (ls : Array Slot), G12 (lp_X10_resolve_1 Y o p2 n vv13 vv14 mm15) = some r → JW D Y ty ad A s.heap mm15 H locs → lv_has ls 5 [(4, .int vv14), (3, .int vv13), (0, .ref (ad o)), (2, .int p2)] → W p l e R s m args below meth c H locs 0 0 Q (F0 m 60 ls []) := by
          intro n
          induction n with
          | zero => intro vv13 vv14 mm15 H locs ls hE jw hl; exact absurd hE (hG12 _)
          | succ n ih =>
            intro vv13 vv14 mm15 H locs ls hE jw hl
            rw [lp_X10_resolve_1] at hE
            refine lv_iload hx hb dX10_resolve_60 (lv_at hl 0 rfl) ?_
            refine lv_aload_n hx hb dX10_resolve_62 rfl (lv_at hl 2 rfl) ?_
            refine jg_10_48 jc jw ho wd_6_107 dX10_resolve_63 ?_
            refine lv_icmp_ge (tgt := 111) hx hb dX10_resolve_66 (by decide) (fun c16 => ?_) (fun c16 => ?_)
            · rw [if_pos c16] at hE
              exact E12_111 mm15  H locs ls hE jw (lv_sub hl [2] rfl)
            · rw [if_neg c16] at hE
              refine lv_aload_n hx hb dX10_resolve_69 rfl (lv_at hl 2 rfl) ?_
              refine jg_10_47 jc jw ho wd_6_106 dX10_resolve_70 ?_
              have k17 := j_sub hY ho 47 (f := 100) rfl (by decide) (by decide) (by decide)
              refine lv_bipush (v := 7) hx hb dX10_resolve_73 (by decide) ?_
              refine lv_iload hx hb dX10_resolve_75 (lv_at hl 0 rfl) ?_
              refine lv_imul hx hb dX10_resolve_77 ?_
              rcases Classical.em (j_g ((7 : Int32) * vv14) (j_ln Y (j_rf Y o 47))) with g18 | g18
              case inr => rw [if_neg g18] at hE; exact absurd hE (hG12 _)
              rw [if_pos g18] at hE
              refine jr_iald jc jw k17 (j_g_in g18) dX10_resolve_78 ?_
              refine lv_iconst (v := 4) hx hb dX10_resolve_79 (by decide) ?_
              obtain ⟨G20, eG20, hG20, hE⟩ := j_ctxB hG12 hE
              have J20 : ∀ (vv28 : Int32) (mm29 : JM)  (H : Heap) (locs : List Loc) (ls : Array Slot), G20 (some (vv28, mm29)) = some r → JW D Y ty ad A s.heap mm29 H locs → lv_has ls 5 [(4, .int vv14), (3, .int vv28), (0, .ref (ad o)), (2, .int p2)] → W p l e R s m args below meth c H locs 0 0 Q (F0 m 105 ls []) := by
                intro vv28 mm29  H locs ls hE jw hl
                replace hE := j_popB eG20 hE
                try dsimp only at hE
                obtain ⟨vv30, evv30, hE⟩ := j_lv hE
                try dsimp only at hE
                refine lv_iinc (v := vv30) (lv' := [(4, .int vv30), (3, .int vv28), (0, .ref (ad o)), (2, .int p2)]) hx hb dX10_resolve_105 hl (k := 0) rfl (by rw [evv30]; rfl) (by decide) rfl (fun ls hl => ?_)
                refine lv_goto (tgt := 60) hx hb dX10_resolve_108 (by decide) ?_
                exact ih vv28 vv30 mm29 H locs ls hE jw (lv_sub hl [0, 1, 2, 3] rfl)
              refine lv_icmp_ne (tgt := 105) hx hb dX10_resolve_80 (by decide) (fun c19 => ?_) (fun c19 => ?_)
              · rw [if_neg c19] at hE
                exact J20 vv13 mm15  H locs ls hE jw (lv_sub hl [0, 1, 2, 3] rfl)
              · rw [if_pos c19] at hE
                refine lv_iload_n hx hb dX10_resolve_83 rfl (lv_at hl 1 rfl) ?_
                obtain ⟨G22, eG22, hG22, hE⟩ := j_ctxB hG20 hE
                have J22 : ∀ (mm25 : JM)  (H : Heap) (locs : List Loc) (ls : Array Slot), G22 (some mm25) = some r → JW D Y ty ad A s.heap mm25 H locs → lv_has ls 5 [(4, .int vv14), (3, .int vv13), (0, .ref (ad o)), (2, .int p2)] → W p l e R s m args below meth c H locs 0 0 Q (F0 m 102 ls []) := by
                  intro mm25  H locs ls hE jw hl
                  replace hE := j_popB eG22 hE
                  try dsimp only at hE
                  obtain ⟨vv26, evv26, hE⟩ := j_lv hE
                  try dsimp only at hE
                  refine lv_iinc (v := vv26) (lv' := [(3, .int vv26), (4, .int vv14), (0, .ref (ad o)), (2, .int p2)]) hx hb dX10_resolve_102 hl (k := 1) rfl (by rw [evv26]; rfl) (by decide) rfl (fun ls hl => ?_)
                  exact J20 vv26 mm25  H locs ls hE jw (lv_sub hl [1, 0, 2, 3] rfl)
                refine lv_if_ne (tgt := 102) hx hb dX10_resolve_84 (by decide) (fun c21 => ?_) (fun c21 => ?_)
                · rw [if_neg c21] at hE
                  exact J22 mm15  H locs ls hE jw (lv_sub hl [0, 1, 2, 3] rfl)
                · rw [if_pos c21] at hE
                  refine lv_aload_n hx hb dX10_resolve_87 rfl (lv_at hl 2 rfl) ?_
                  refine lv_iconst (v := 0) hx hb dX10_resolve_88 (by decide) ?_
                  refine js_10_18 jc jw ho wd_6_77 dX10_resolve_89 (fun H locs jw => ?_)
                  obtain ⟨mm23, emm23, hE⟩ := j_lv hE
                  rw [← emm23] at jw
                  try dsimp only at hE
                  refine lv_aload_n hx hb dX10_resolve_92 rfl (lv_at hl 2 rfl) ?_
                  refine lv_bipush (v := 7) hx hb dX10_resolve_93 (by decide) ?_
                  refine lv_iload hx hb dX10_resolve_95 (lv_at hl 0 rfl) ?_
                  refine lv_imul hx hb dX10_resolve_97 ?_
                  refine lv_iload_n hx hb dX10_resolve_98 rfl (lv_at hl 3 rfl) ?_
                  obtain ⟨xx24, exx24, hE⟩ := j_bd hG22 hE
                  try dsimp only at hE
                  refine jc_vv [.int ((7 : Int32) * vv14), .int p2] [] jc jw hA ho (by decide) rfl (c_X10_resolvedOut hY ho (M := mm23) exx24) sd_X10_286 rfl hl.1 (j_hR hRf hRl rfl rfl) (Nat.le_of_ble_eq_true rfl) dX10_resolve_99 (fun H locs jw => ?_)
                  exact J22 xx24  H locs ls hE jw (lv_sub hl [0, 1, 2, 3] rfl)
        exact LP12 j_fuel p1 (0 : Int32) mm11 H locs ls hE jw (lv_sub hl [0, 1, 2, 4] rfl)
      · rw [if_pos c7] at hE
        refine lv_aload_n hx hb dX10_resolve_42 rfl (lv_at hl 0 rfl) ?_
        refine lv_iconst (v := 3) hx hb dX10_resolve_43 (by decide) ?_
        obtain ⟨xx8, exx8, hE⟩ := j_lv hE
        try dsimp only at hE
        refine jc_vi [.int (3 : Int32)] [] jc jw hA ho (by decide) rfl (c_X10_fails hY ho (M := M) exx8.symm) sd_X10_130 rfl hl.1 (j_hR hRf hRl rfl rfl) (Nat.le_of_ble_eq_true rfl) dX10_resolve_44 (fun H locs jw => ?_)
        exact kr _ _ _ _ _ _ (congrArg Prod.fst (Option.some.inj (j_ret eG0 hE))) (congrArg Prod.snd (Option.some.inj (j_ret eG0 hE))) jw dX10_resolve_47
    · rw [if_pos c4] at hE
      refine lv_aload_n hx hb dX10_resolve_27 rfl (lv_at hl 0 rfl) ?_
      refine lv_iconst (v := 2) hx hb dX10_resolve_28 (by decide) ?_
      obtain ⟨xx5, exx5, hE⟩ := j_lv hE
      try dsimp only at hE
      refine jc_vi [.int (2 : Int32)] [] jc jw hA ho (by decide) rfl (c_X10_fails hY ho (M := M) exx5.symm) sd_X10_130 rfl hl.1 (j_hR hRf hRl rfl rfl) (Nat.le_of_ble_eq_true rfl) dX10_resolve_29 (fun H locs jw => ?_)
      exact kr _ _ _ _ _ _ (congrArg Prod.fst (Option.some.inj (j_ret eG0 hE))) (congrArg Prod.snd (Option.some.inj (j_ret eG0 hE))) jw dX10_resolve_32
  · rw [if_pos c1] at hE
    refine lv_aload_n hx hb dX10_resolve_7 rfl (lv_at hl 0 rfl) ?_
    refine lv_iconst (v := 1) hx hb dX10_resolve_8 (by decide) ?_
    obtain ⟨xx2, exx2, hE⟩ := j_lv hE
    try dsimp only at hE
    refine jc_vi [.int (1 : Int32)] [] jc jw hA ho (by decide) rfl (c_X10_fails hY ho (M := M) exx2.symm) sd_X10_130 rfl hl.1 (j_hR hRf hRl rfl rfl) (Nat.le_of_ble_eq_true rfl) dX10_resolve_9 (fun H locs jw => ?_)
    exact kr _ _ _ _ _ _ (congrArg Prod.fst (Option.some.inj (j_ret eG0 hE))) (congrArg Prod.snd (Option.some.inj (j_ret eG0 hE))) jw dX10_resolve_12
def lp_X10_openConflicts_1 (Y : JY) (M : JM) (o : Nat) (n : Nat) (vv2 : Int32) (vv3 : Int32) : Option (Int32) := match n with
  | 0 => none
  | n + 1 => if (M o 50) ≤ vv3 then (some vv2) else (if j_g vv3 (j_ln Y (j_rf Y o 49)) then (lt_ (if (M (j_rf Y o 49) vv3.toNatClampNeg) = (-1 : Int32) then ((1 : Int32)) else ((0 : Int32))) fun xx12 => lt_ (vv2 + xx12) fun vv10 => lt_ (vv3 + (1 : Int32)) fun vv11 => lp_X10_openConflicts_1 Y M o n vv10 vv11) else none)
def s_X10_openConflicts (Y : JY) (M : JM) (o : Nat) : Option (Int32) := (lp_X10_openConflicts_1 Y M o j_fuel (0 : Int32) (0 : Int32)).bind fun xx13 => some xx13
set_option maxRecDepth 100000 in
set_option maxHeartbeats 4000000 in
theorem c_X10_openConflicts {D : va_G} {Y : JY} {ty : Nat → ClassId} {ad : Nat → Nat} {sz : Nat} {l : Launch} {M : JM} (hY : j_ok Y) {o : Nat} (ho : j_kd Y o = 10) {r : Int32} (hE : s_X10_openConflicts Y M o = some r) : JMi D Y ty ad sz l yX10_openConflicts cX10_openConflicts 3 (some .int) 0 0 [.ref (ad o)] M r M := by
  refine j_ofI hY (by decide +kernel) (Nat.le_of_ble_eq_true rfl) (fun p e s m below meth c args R Q A hRf hRl hA jc jw kr ls hl => ?_)
  have hx := jc.1
  have hb := jc.2.1
  have hl : lv_has ls 3 [(0, .ref (ad o))] := hl
  unfold s_X10_openConflicts at hE
  obtain ⟨G0, eG0, hG0, hE⟩ := j_F0o hE
  refine lv_iconst (v := 0) hx hb dX10_openConflicts_0 (by decide) ?_
  refine lv_istore_n (lv' := [(1, .int (0 : Int32)), (0, .ref (ad o))]) hx hb dX10_openConflicts_1 rfl hl (by decide) rfl (fun ls hl => ?_)
  refine lv_iconst (v := 0) hx hb dX10_openConflicts_2 (by decide) ?_
  refine lv_istore_n (lv' := [(2, .int (0 : Int32)), (1, .int (0 : Int32)), (0, .ref (ad o))]) hx hb dX10_openConflicts_3 rfl hl (by decide) rfl (fun ls hl => ?_)
  obtain ⟨G1, eG1, hG1, hE⟩ := j_ctxB hG0 hE
  have LP1 : ∀ (n : Nat) (vv2 : Int32) (vv3 : Int32) (H : Heap) (locs : List Loc) (ls : Array Slot), G1 (lp_X10_openConflicts_1 Y M o n vv2 vv3) = some r → JW D Y ty ad A s.heap M H locs → lv_has ls 3 [(2, .int vv3), (1, .int vv2), (0, .ref (ad o))] → W p l e R s m args below meth c H locs 0 0 Q (F0 m 4 ls []) := by
    intro n
    induction n with
    | zero => intro vv2 vv3 H locs ls hE jw hl; exact absurd hE (hG1 _)
    | succ n ih =>
      intro vv2 vv3 H locs ls hE jw hl
      rw [lp_X10_openConflicts_1] at hE
      refine lv_iload_n hx hb dX10_openConflicts_4 rfl (lv_at hl 0 rfl) ?_
      refine lv_aload_n hx hb dX10_openConflicts_5 rfl (lv_at hl 2 rfl) ?_
      refine jg_10_50 jc jw ho wd_6_109 dX10_openConflicts_6 ?_
      refine lv_icmp_ge (tgt := 36) hx hb dX10_openConflicts_9 (by decide) (fun c4 => ?_) (fun c4 => ?_)
      · rw [if_pos c4] at hE
        refine lv_iload_n hx hb dX10_openConflicts_36 rfl (lv_at hl 1 rfl) ?_
        replace hE := j_popB eG1 hE
        try dsimp only at hE
        exact kr _ _ _ _ _ _ (Option.some.inj (j_ret eG0 hE)) rfl jw dX10_openConflicts_37
      · rw [if_neg c4] at hE
        refine lv_iload_n hx hb dX10_openConflicts_12 rfl (lv_at hl 1 rfl) ?_
        refine lv_aload_n hx hb dX10_openConflicts_13 rfl (lv_at hl 2 rfl) ?_
        refine jg_10_49 jc jw ho wd_6_108 dX10_openConflicts_14 ?_
        have k5 := j_sub hY ho 49 (f := 100) rfl (by decide) (by decide) (by decide)
        refine lv_iload_n hx hb dX10_openConflicts_17 rfl (lv_at hl 0 rfl) ?_
        rcases Classical.em (j_g vv3 (j_ln Y (j_rf Y o 49))) with g6 | g6
        case inr => rw [if_neg g6] at hE; exact absurd hE (hG1 _)
        rw [if_pos g6] at hE
        refine jr_iald jc jw k5 (j_g_in g6) dX10_openConflicts_18 ?_
        refine lv_iconst (v := -1) hx hb dX10_openConflicts_19 (by decide) ?_
        obtain ⟨G8, eG8, hE⟩ := j_ctxL hE
        have J8 : ∀ (vv9 : Int32)  (H : Heap) (locs : List Loc) (ls : Array Slot), G8 (vv9) = some r → JW D Y ty ad A s.heap M H locs → lv_has ls 3 [(2, .int vv3), (0, .ref (ad o))] → W p l e R s m args below meth c H locs 0 0 Q (F0 m 28 ls [.int vv9, .int vv2]) := by
          intro vv9  H locs ls hE jw hl
          replace hE := j_popL eG8 hE
          try dsimp only at hE
          refine lv_iadd hx hb dX10_openConflicts_28 ?_
          refine lv_topi (fun vv10 evv10 => ?_)
          replace hE := j_lu hE evv10
          try dsimp only at hE
          refine lv_istore_n (lv' := [(1, .int vv10), (2, .int vv3), (0, .ref (ad o))]) hx hb dX10_openConflicts_29 rfl hl (by decide) rfl (fun ls hl => ?_)
          obtain ⟨vv11, evv11, hE⟩ := j_lv hE
          try dsimp only at hE
          refine lv_iinc (v := vv11) (lv' := [(2, .int vv11), (1, .int vv10), (0, .ref (ad o))]) hx hb dX10_openConflicts_30 hl (k := 1) rfl (by rw [evv11]; rfl) (by decide) rfl (fun ls hl => ?_)
          refine lv_goto (tgt := 4) hx hb dX10_openConflicts_33 (by decide) ?_
          exact ih vv10 vv11 H locs ls hE jw (lv_sub hl [0, 1, 2] rfl)
        refine lv_icmp_ne (tgt := 27) hx hb dX10_openConflicts_20 (by decide) (fun c7 => ?_) (fun c7 => ?_)
        · rw [if_neg c7] at hE
          refine lv_iconst (v := 0) hx hb dX10_openConflicts_27 (by decide) ?_
          exact J8 (0 : Int32)  H locs ls hE jw (lv_sub hl [0, 2] rfl)
        · rw [if_pos c7] at hE
          refine lv_iconst (v := 1) hx hb dX10_openConflicts_23 (by decide) ?_
          refine lv_goto (tgt := 28) hx hb dX10_openConflicts_24 (by decide) ?_
          exact J8 (1 : Int32)  H locs ls hE jw (lv_sub hl [0, 2] rfl)
  exact LP1 j_fuel (0 : Int32) (0 : Int32) s.heap [] ls hE jw (lv_sub hl [0, 1, 2] rfl)
def s_X10_unresolved (Y : JY) (M : JM) (o : Nat) : Option (Int32 × JM) := if (j_z (M o 38)) = 0 then (lt_ (s_X10_fails Y M o (1 : Int32)) fun xx2 => some (xx2.1, xx2.2)) else ((s_X10_openConflicts Y M o).bind fun xx3 => lt_ (s_X10_done Y M o xx3) fun xx4 => some (xx4.1, xx4.2))
set_option maxRecDepth 100000 in
set_option maxHeartbeats 4000000 in
theorem c_X10_unresolved {D : va_G} {Y : JY} {ty : Nat → ClassId} {ad : Nat → Nat} {sz : Nat} {l : Launch} {M : JM} (hY : j_ok Y) {o : Nat} (ho : j_kd Y o = 10) {r : Int32 × JM} (hE : s_X10_unresolved Y M o = some r) : JMi D Y ty ad sz l yX10_unresolved cX10_unresolved 1 (some .int) 1 22 [.ref (ad o)] M r.1 r.2 := by
  refine j_ofI hY (by decide +kernel) (Nat.le_of_ble_eq_true rfl) (fun p e s m below meth c args R Q A hRf hRl hA jc jw kr ls hl => ?_)
  have hx := jc.1
  have hb := jc.2.1
  have hl : lv_has ls 1 [(0, .ref (ad o))] := hl
  unfold s_X10_unresolved at hE
  obtain ⟨G0, eG0, hG0, hE⟩ := j_F0o hE
  refine lv_aload_n hx hb dX10_unresolved_0 rfl (lv_at hl 0 rfl) ?_
  refine jg_10_38 jc jw ho wd_6_97 dX10_unresolved_1 ?_
  refine lv_if_eq (tgt := 18) hx hb dX10_unresolved_4 (by decide) (fun c1 => ?_) (fun c1 => ?_)
  · rw [if_pos c1] at hE
    refine lv_aload_n hx hb dX10_unresolved_18 rfl (lv_at hl 0 rfl) ?_
    refine lv_iconst (v := 1) hx hb dX10_unresolved_19 (by decide) ?_
    obtain ⟨xx2, exx2, hE⟩ := j_lv hE
    try dsimp only at hE
    refine jc_vi [.int (1 : Int32)] [] jc jw hA ho (by decide) rfl (c_X10_fails hY ho (M := M) exx2.symm) sd_X10_130 rfl hl.1 (j_hR hRf hRl rfl rfl) (Nat.le_of_ble_eq_true rfl) dX10_unresolved_20 (fun H locs jw => ?_)
    exact kr _ _ _ _ _ _ (congrArg Prod.fst (Option.some.inj (j_ret eG0 hE))) (congrArg Prod.snd (Option.some.inj (j_ret eG0 hE))) jw dX10_unresolved_23
  · rw [if_neg c1] at hE
    refine lv_aload_n hx hb dX10_unresolved_7 rfl (lv_at hl 0 rfl) ?_
    refine lv_aload_n hx hb dX10_unresolved_8 rfl (lv_at hl 0 rfl) ?_
    obtain ⟨xx3, exx3, hE⟩ := j_bd hG0 hE
    try dsimp only at hE
    refine jc_vi [] [.ref (ad o)] jc jw hA ho (by decide) rfl (c_X10_openConflicts hY ho (M := M) exx3) sd_X10_290 rfl hl.1 (j_hR hRf hRl rfl rfl) (Nat.le_of_ble_eq_true rfl) dX10_unresolved_9 (fun H locs jw => ?_)
    obtain ⟨xx4, exx4, hE⟩ := j_lv hE
    try dsimp only at hE
    refine jc_vi [.int xx3] [] jc jw hA ho (by decide) rfl (c_X10_done hY ho (M := M) exx4.symm) sd_X10_138 rfl hl.1 (j_hR hRf hRl rfl rfl) (Nat.le_of_ble_eq_true rfl) dX10_unresolved_12 (fun H locs jw => ?_)
    refine lv_goto (tgt := 23) hx hb dX10_unresolved_15 (by decide) ?_
    exact kr _ _ _ _ _ _ (congrArg Prod.fst (Option.some.inj (j_ret eG0 hE))) (congrArg Prod.snd (Option.some.inj (j_ret eG0 hE))) jw dX10_unresolved_23
def s_X10_mergedLength (Y : JY) (M : JM) (o : Nat) : Option (Int32 × JM) := if (j_z (M o 38)) = 0 then (lt_ (s_X10_fails Y M o (1 : Int32)) fun xx2 => some (xx2.1, xx2.2)) else ((s_X10_tellMerged Y M o).bind fun xx3 => lt_ (s_X10_done Y xx3 o (xx3 o 18)) fun xx4 => some (xx4.1, xx4.2))
set_option maxRecDepth 100000 in
set_option maxHeartbeats 4000000 in
theorem c_X10_mergedLength {D : va_G} {Y : JY} {ty : Nat → ClassId} {ad : Nat → Nat} {sz : Nat} {l : Launch} {M : JM} (hY : j_ok Y) {o : Nat} (ho : j_kd Y o = 10) {r : Int32 × JM} (hE : s_X10_mergedLength Y M o = some r) : JMi D Y ty ad sz l yX10_mergedLength cX10_mergedLength 1 (some .int) 3 69 [.ref (ad o)] M r.1 r.2 := by
  refine j_ofI hY (by decide +kernel) (Nat.le_of_ble_eq_true rfl) (fun p e s m below meth c args R Q A hRf hRl hA jc jw kr ls hl => ?_)
  have hx := jc.1
  have hb := jc.2.1
  have hl : lv_has ls 1 [(0, .ref (ad o))] := hl
  unfold s_X10_mergedLength at hE
  obtain ⟨G0, eG0, hG0, hE⟩ := j_F0o hE
  refine lv_aload_n hx hb dX10_mergedLength_0 rfl (lv_at hl 0 rfl) ?_
  refine jg_10_38 jc jw ho wd_6_97 dX10_mergedLength_1 ?_
  refine lv_if_ne (tgt := 13) hx hb dX10_mergedLength_4 (by decide) (fun c1 => ?_) (fun c1 => ?_)
  · rw [if_neg c1] at hE
    refine lv_aload_n hx hb dX10_mergedLength_13 rfl (lv_at hl 0 rfl) ?_
    obtain ⟨xx3, exx3, hE⟩ := j_bd hG0 hE
    try dsimp only at hE
    refine jc_vv [] [] jc jw hA ho (by decide) rfl (c_X10_tellMerged hY ho (M := M) exx3) sd_X10_293 rfl hl.1 (j_hR hRf hRl rfl rfl) (Nat.le_of_ble_eq_true rfl) dX10_mergedLength_14 (fun H locs jw => ?_)
    refine lv_aload_n hx hb dX10_mergedLength_17 rfl (lv_at hl 0 rfl) ?_
    refine lv_aload_n hx hb dX10_mergedLength_18 rfl (lv_at hl 0 rfl) ?_
    refine jg_10_18 jc jw ho wd_6_77 dX10_mergedLength_19 ?_
    obtain ⟨xx4, exx4, hE⟩ := j_lv hE
    try dsimp only at hE
    refine jc_vi [.int (xx3 o 18)] [] jc jw hA ho (by decide) rfl (c_X10_done hY ho (M := xx3) exx4.symm) sd_X10_138 rfl hl.1 (j_hR hRf hRl rfl rfl) (Nat.le_of_ble_eq_true rfl) dX10_mergedLength_22 (fun H locs jw => ?_)
    exact kr _ _ _ _ _ _ (congrArg Prod.fst (Option.some.inj (j_ret eG0 hE))) (congrArg Prod.snd (Option.some.inj (j_ret eG0 hE))) jw dX10_mergedLength_25
  · rw [if_pos c1] at hE
    refine lv_aload_n hx hb dX10_mergedLength_7 rfl (lv_at hl 0 rfl) ?_
    refine lv_iconst (v := 1) hx hb dX10_mergedLength_8 (by decide) ?_
    obtain ⟨xx2, exx2, hE⟩ := j_lv hE
    try dsimp only at hE
    refine jc_vi [.int (1 : Int32)] [] jc jw hA ho (by decide) rfl (c_X10_fails hY ho (M := M) exx2.symm) sd_X10_130 rfl hl.1 (j_hR hRf hRl rfl rfl) (Nat.le_of_ble_eq_true rfl) dX10_mergedLength_9 (fun H locs jw => ?_)
    exact kr _ _ _ _ _ _ (congrArg Prod.fst (Option.some.inj (j_ret eG0 hE))) (congrArg Prod.snd (Option.some.inj (j_ret eG0 hE))) jw dX10_mergedLength_12
def s_X10_merged (Y : JY) (M : JM) (o : Nat) (p1 : Int32) : Option (Int32 × JM) := if (j_z (M o 38)) = 0 then (lt_ (s_X10_fails Y M o (1 : Int32)) fun xx2 => some (xx2.1, xx2.2)) else ((s_X10_tellMerged Y M o).bind fun xx3 => if (s_X10_in Y xx3 p1 (0 : Int32) ((xx3 o 18) - (1 : Int32))) = 0 then (lt_ (s_X10_fails Y xx3 o (2 : Int32)) fun xx6 => some (xx6.1, xx6.2)) else (if j_g p1 (j_ln Y (j_rf Y o 15)) then (lt_ (s_X10_done Y xx3 o (xx3 (j_rf Y o 15) p1.toNatClampNeg)) fun xx9 => some (xx9.1, xx9.2)) else none))
set_option maxRecDepth 100000 in
set_option maxHeartbeats 4000000 in
theorem c_X10_merged {D : va_G} {Y : JY} {ty : Nat → ClassId} {ad : Nat → Nat} {sz : Nat} {l : Launch} {M : JM} (hY : j_ok Y) {o : Nat} {p1 : Int32} (ho : j_kd Y o = 10) {r : Int32 × JM} (hE : s_X10_merged Y M o p1 = some r) : JMi D Y ty ad sz l yX10_merged cX10_merged 2 (some .int) 3 69 [.ref (ad o), .int p1] M r.1 r.2 := by
  refine j_ofI hY (by decide +kernel) (Nat.le_of_ble_eq_true rfl) (fun p e s m below meth c args R Q A hRf hRl hA jc jw kr ls hl => ?_)
  have hx := jc.1
  have hb := jc.2.1
  have hl : lv_has ls 2 [(0, .ref (ad o)), (1, .int p1)] := hl
  unfold s_X10_merged at hE
  obtain ⟨G0, eG0, hG0, hE⟩ := j_F0o hE
  refine lv_aload_n hx hb dX10_merged_0 rfl (lv_at hl 0 rfl) ?_
  refine jg_10_38 jc jw ho wd_6_97 dX10_merged_1 ?_
  refine lv_if_ne (tgt := 13) hx hb dX10_merged_4 (by decide) (fun c1 => ?_) (fun c1 => ?_)
  · rw [if_neg c1] at hE
    refine lv_aload_n hx hb dX10_merged_13 rfl (lv_at hl 0 rfl) ?_
    obtain ⟨xx3, exx3, hE⟩ := j_bd hG0 hE
    try dsimp only at hE
    refine jc_vv [] [] jc jw hA ho (by decide) rfl (c_X10_tellMerged hY ho (M := M) exx3) sd_X10_293 rfl hl.1 (j_hR hRf hRl rfl rfl) (Nat.le_of_ble_eq_true rfl) dX10_merged_14 (fun H locs jw => ?_)
    refine lv_iload_n hx hb dX10_merged_17 rfl (lv_at hl 1 rfl) ?_
    refine lv_iconst (v := 0) hx hb dX10_merged_18 (by decide) ?_
    refine lv_aload_n hx hb dX10_merged_19 rfl (lv_at hl 0 rfl) ?_
    refine jg_10_18 jc jw ho wd_6_77 dX10_merged_20 ?_
    refine lv_iconst (v := 1) hx hb dX10_merged_23 (by decide) ?_
    refine lv_isub hx hb dX10_merged_24 ?_
    refine jc_sz [.int p1, .int (0 : Int32), .int ((xx3 o 18) - (1 : Int32))] [] jc jw hA (c_X10_in hY  (M := xx3) rfl) sd_X10_119 rfl hl.1 (j_hR hRf hRl rfl rfl) (Nat.le_of_ble_eq_true rfl) dX10_merged_25 (fun H locs jw hz => ?_)
    have z_4 := hz
    refine lv_if_eq (tgt := 44) hx hb dX10_merged_28 (by decide) (fun c5 => ?_) (fun c5 => ?_)
    · rw [if_pos c5] at hE
      refine lv_aload_n hx hb dX10_merged_44 rfl (lv_at hl 0 rfl) ?_
      refine lv_iconst (v := 2) hx hb dX10_merged_45 (by decide) ?_
      obtain ⟨xx6, exx6, hE⟩ := j_lv hE
      try dsimp only at hE
      refine jc_vi [.int (2 : Int32)] [] jc jw hA ho (by decide) rfl (c_X10_fails hY ho (M := xx3) exx6.symm) sd_X10_130 rfl hl.1 (j_hR hRf hRl rfl rfl) (Nat.le_of_ble_eq_true rfl) dX10_merged_46 (fun H locs jw => ?_)
      exact kr _ _ _ _ _ _ (congrArg Prod.fst (Option.some.inj (j_ret eG0 hE))) (congrArg Prod.snd (Option.some.inj (j_ret eG0 hE))) jw dX10_merged_49
    · rw [if_neg c5] at hE
      refine lv_aload_n hx hb dX10_merged_31 rfl (lv_at hl 0 rfl) ?_
      refine lv_aload_n hx hb dX10_merged_32 rfl (lv_at hl 0 rfl) ?_
      refine jg_10_15 jc jw ho wd_6_74 dX10_merged_33 ?_
      have k7 := j_sub hY ho 15 (f := 100) rfl (by decide) (by decide) (by decide)
      refine lv_iload_n hx hb dX10_merged_36 rfl (lv_at hl 1 rfl) ?_
      rcases Classical.em (j_g p1 (j_ln Y (j_rf Y o 15))) with g8 | g8
      case inr => rw [if_neg g8] at hE; exact absurd hE (hG0 _)
      rw [if_pos g8] at hE
      refine jr_iald jc jw k7 (j_g_in g8) dX10_merged_37 ?_
      obtain ⟨xx9, exx9, hE⟩ := j_lv hE
      try dsimp only at hE
      refine jc_vi [.int (xx3 (j_rf Y o 15) p1.toNatClampNeg)] [] jc jw hA ho (by decide) rfl (c_X10_done hY ho (M := xx3) exx9.symm) sd_X10_138 rfl hl.1 (j_hR hRf hRl rfl rfl) (Nat.le_of_ble_eq_true rfl) dX10_merged_38 (fun H locs jw => ?_)
      refine lv_goto (tgt := 49) hx hb dX10_merged_41 (by decide) ?_
      exact kr _ _ _ _ _ _ (congrArg Prod.fst (Option.some.inj (j_ret eG0 hE))) (congrArg Prod.snd (Option.some.inj (j_ret eG0 hE))) jw dX10_merged_49
  · rw [if_pos c1] at hE
    refine lv_aload_n hx hb dX10_merged_7 rfl (lv_at hl 0 rfl) ?_
    refine lv_iconst (v := 1) hx hb dX10_merged_8 (by decide) ?_
    obtain ⟨xx2, exx2, hE⟩ := j_lv hE
    try dsimp only at hE
    refine jc_vi [.int (1 : Int32)] [] jc jw hA ho (by decide) rfl (c_X10_fails hY ho (M := M) exx2.symm) sd_X10_130 rfl hl.1 (j_hR hRf hRl rfl rfl) (Nat.le_of_ble_eq_true rfl) dX10_merged_9 (fun H locs jw => ?_)
    exact kr _ _ _ _ _ _ (congrArg Prod.fst (Option.some.inj (j_ret eG0 hE))) (congrArg Prod.snd (Option.some.inj (j_ret eG0 hE))) jw dX10_merged_12
def s_X10_accept (Y : JY) (M : JM) (o : Nat) (p1 : Int32) : Option (Int32 × JM) := if (s_X10_isRegister Y M p1) = 0 then (lt_ (s_X10_fails Y M o (1 : Int32)) fun xx3 => some (xx3.1, xx3.2)) else ((if (j_z (M o 38)) = 0 then (some (Sum.inl M)) else ((s_X10_openConflicts Y M o).bind fun xx6 => if xx6 ≤ 0 then ((s_X10_tellMerged Y M o).bind fun xx8 => if (xx8 o 18) ≤ (24 : Int32) then ((s_X10_remembers Y xx8 o p1).bind fun xx10 => (s_X10_holds Y xx10 o p1 (j_rf Y o 15) (xx10 o 18)).bind fun xx12 => lt_ (s_X10_done Y xx12 o (xx12 o 18)) fun xx13 => some (Sum.inr (xx13.1, xx13.2))) else (lt_ (s_X10_fails Y xx8 o (3 : Int32)) fun xx14 => some (Sum.inr (xx14.1, xx14.2)))) else (some (Sum.inl M)))).bind fun xx17 => match xx17 with | Sum.inl yy17 => (lt_ (s_X10_fails Y yy17 o (2 : Int32)) fun xx16 => some (xx16.1, xx16.2)) | Sum.inr yy17 => (some (yy17.1, yy17.2)))
set_option maxRecDepth 100000 in
set_option maxHeartbeats 4000000 in
theorem c_X10_accept {D : va_G} {Y : JY} {ty : Nat → ClassId} {ad : Nat → Nat} {sz : Nat} {l : Launch} {M : JM} (hY : j_ok Y) {o : Nat} {p1 : Int32} (ho : j_kd Y o = 10) {r : Int32 × JM} (hE : s_X10_accept Y M o p1 = some r) : JMi D Y ty ad sz l yX10_accept cX10_accept 2 (some .int) 3 69 [.ref (ad o), .int p1] M r.1 r.2 := by
  refine j_ofI hY (by decide +kernel) (Nat.le_of_ble_eq_true rfl) (fun p e s m below meth c args R Q A hRf hRl hA jc jw kr ls hl => ?_)
  have hx := jc.1
  have hb := jc.2.1
  have hl : lv_has ls 2 [(0, .ref (ad o)), (1, .int p1)] := hl
  unfold s_X10_accept at hE
  obtain ⟨G0, eG0, hG0, hE⟩ := j_F0o hE
  refine lv_iload_n hx hb dX10_accept_0 rfl (lv_at hl 1 rfl) ?_
  refine jc_sz [.int p1] [] jc jw hA (c_X10_isRegister hY  (M := M) rfl) sd_X10_126 rfl hl.1 (j_hR hRf hRl rfl rfl) (Nat.le_of_ble_eq_true rfl) dX10_accept_1 (fun H locs jw hz => ?_)
  have z_1 := hz
  refine lv_if_ne (tgt := 13) hx hb dX10_accept_4 (by decide) (fun c2 => ?_) (fun c2 => ?_)
  · rw [if_neg c2] at hE
    refine lv_aload_n hx hb dX10_accept_13 rfl (lv_at hl 0 rfl) ?_
    refine jg_10_38 jc jw ho wd_6_97 dX10_accept_14 ?_
    obtain ⟨G5, eG5, hG5, hE⟩ := j_ctxB hG0 hE
    have J5 : ∀ (mm15 : JM)  (H : Heap) (locs : List Loc) (ls : Array Slot), G5 (some (Sum.inl mm15)) = some r → JW D Y ty ad A s.heap mm15 H locs → lv_has ls 2 [(0, .ref (ad o))] → W p l e R s m args below meth c H locs 0 0 Q (F0 m 27 ls []) := by
      intro mm15  H locs ls hE jw hl
      replace hE := j_popB eG5 hE
      try dsimp only at hE
      refine lv_aload_n hx hb dX10_accept_27 rfl (lv_at hl 0 rfl) ?_
      refine lv_iconst (v := 2) hx hb dX10_accept_28 (by decide) ?_
      obtain ⟨xx16, exx16, hE⟩ := j_lv hE
      try dsimp only at hE
      refine jc_vi [.int (2 : Int32)] [] jc jw hA ho (by decide) rfl (c_X10_fails hY ho (M := mm15) exx16.symm) sd_X10_130 rfl hl.1 (j_hR hRf hRl rfl rfl) (Nat.le_of_ble_eq_true rfl) dX10_accept_29 (fun H locs jw => ?_)
      exact kr _ _ _ _ _ _ (congrArg Prod.fst (Option.some.inj (j_ret eG0 hE))) (congrArg Prod.snd (Option.some.inj (j_ret eG0 hE))) jw dX10_accept_32
    refine lv_if_eq (tgt := 27) hx hb dX10_accept_17 (by decide) (fun c4 => ?_) (fun c4 => ?_)
    · rw [if_pos c4] at hE
      exact J5 M  H locs ls hE jw (lv_sub hl [0] rfl)
    · rw [if_neg c4] at hE
      refine lv_aload_n hx hb dX10_accept_20 rfl (lv_at hl 0 rfl) ?_
      obtain ⟨xx6, exx6, hE⟩ := j_bd hG5 hE
      try dsimp only at hE
      refine jc_vi [] [] jc jw hA ho (by decide) rfl (c_X10_openConflicts hY ho (M := M) exx6) sd_X10_290 rfl hl.1 (j_hR hRf hRl rfl rfl) (Nat.le_of_ble_eq_true rfl) dX10_accept_21 (fun H locs jw => ?_)
      refine lv_if_le (tgt := 33) hx hb dX10_accept_24 (by decide) (fun c7 => ?_) (fun c7 => ?_)
      · rw [if_pos c7] at hE
        refine lv_aload_n hx hb dX10_accept_33 rfl (lv_at hl 0 rfl) ?_
        obtain ⟨xx8, exx8, hE⟩ := j_bd hG5 hE
        try dsimp only at hE
        refine jc_vv [] [] jc jw hA ho (by decide) rfl (c_X10_tellMerged hY ho (M := M) exx8) sd_X10_293 rfl hl.1 (j_hR hRf hRl rfl rfl) (Nat.le_of_ble_eq_true rfl) dX10_accept_34 (fun H locs jw => ?_)
        refine lv_aload_n hx hb dX10_accept_37 rfl (lv_at hl 0 rfl) ?_
        refine jg_10_18 jc jw ho wd_6_77 dX10_accept_38 ?_
        refine lv_bipush (v := 24) hx hb dX10_accept_41 (by decide) ?_
        refine lv_icmp_le (tgt := 52) hx hb dX10_accept_43 (by decide) (fun c9 => ?_) (fun c9 => ?_)
        · rw [if_pos c9] at hE
          refine lv_aload_n hx hb dX10_accept_52 rfl (lv_at hl 0 rfl) ?_
          refine lv_iload_n hx hb dX10_accept_53 rfl (lv_at hl 1 rfl) ?_
          obtain ⟨xx10, exx10, hE⟩ := j_bd hG5 hE
          try dsimp only at hE
          refine jc_vv [.int p1] [] jc jw hA ho (by decide) rfl (c_X10_remembers hY ho (M := xx8) exx10) sd_X10_134 rfl hl.1 (j_hR hRf hRl rfl rfl) (Nat.le_of_ble_eq_true rfl) dX10_accept_54 (fun H locs jw => ?_)
          refine lv_aload_n hx hb dX10_accept_57 rfl (lv_at hl 0 rfl) ?_
          refine lv_iload_n hx hb dX10_accept_58 rfl (lv_at hl 1 rfl) ?_
          refine lv_aload_n hx hb dX10_accept_59 rfl (lv_at hl 0 rfl) ?_
          refine jg_10_15 jc jw ho wd_6_74 dX10_accept_60 ?_
          have k11 := j_sub hY ho 15 (f := 100) rfl (by decide) (by decide) (by decide)
          refine lv_aload_n hx hb dX10_accept_63 rfl (lv_at hl 0 rfl) ?_
          refine jg_10_18 jc jw ho wd_6_77 dX10_accept_64 ?_
          obtain ⟨xx12, exx12, hE⟩ := j_bd hG5 hE
          try dsimp only at hE
          refine jc_vv [.int p1, .ref (ad (j_rf Y o 15)), .int (xx10 o 18)] [] jc jw hA ho (by decide) rfl (c_X10_holds hY ho k11 (M := xx10) exx12) sd_X10_141 rfl hl.1 (j_hR hRf hRl rfl rfl) (Nat.le_of_ble_eq_true rfl) dX10_accept_67 (fun H locs jw => ?_)
          refine lv_aload_n hx hb dX10_accept_70 rfl (lv_at hl 0 rfl) ?_
          refine lv_aload_n hx hb dX10_accept_71 rfl (lv_at hl 0 rfl) ?_
          refine jg_10_18 jc jw ho wd_6_77 dX10_accept_72 ?_
          obtain ⟨xx13, exx13, hE⟩ := j_lv hE
          try dsimp only at hE
          refine jc_vi [.int (xx12 o 18)] [] jc jw hA ho (by decide) rfl (c_X10_done hY ho (M := xx12) exx13.symm) sd_X10_138 rfl hl.1 (j_hR hRf hRl rfl rfl) (Nat.le_of_ble_eq_true rfl) dX10_accept_75 (fun H locs jw => ?_)
          replace hE := j_popB eG5 hE
          try dsimp only at hE
          exact kr _ _ _ _ _ _ (congrArg Prod.fst (Option.some.inj (j_ret eG0 hE))) (congrArg Prod.snd (Option.some.inj (j_ret eG0 hE))) jw dX10_accept_78
        · rw [if_neg c9] at hE
          refine lv_aload_n hx hb dX10_accept_46 rfl (lv_at hl 0 rfl) ?_
          refine lv_iconst (v := 3) hx hb dX10_accept_47 (by decide) ?_
          obtain ⟨xx14, exx14, hE⟩ := j_lv hE
          try dsimp only at hE
          refine jc_vi [.int (3 : Int32)] [] jc jw hA ho (by decide) rfl (c_X10_fails hY ho (M := xx8) exx14.symm) sd_X10_130 rfl hl.1 (j_hR hRf hRl rfl rfl) (Nat.le_of_ble_eq_true rfl) dX10_accept_48 (fun H locs jw => ?_)
          replace hE := j_popB eG5 hE
          try dsimp only at hE
          exact kr _ _ _ _ _ _ (congrArg Prod.fst (Option.some.inj (j_ret eG0 hE))) (congrArg Prod.snd (Option.some.inj (j_ret eG0 hE))) jw dX10_accept_51
      · rw [if_neg c7] at hE
        exact J5 M  H locs ls hE jw (lv_sub hl [0] rfl)
  · rw [if_pos c2] at hE
    refine lv_aload_n hx hb dX10_accept_7 rfl (lv_at hl 0 rfl) ?_
    refine lv_iconst (v := 1) hx hb dX10_accept_8 (by decide) ?_
    obtain ⟨xx3, exx3, hE⟩ := j_lv hE
    try dsimp only at hE
    refine jc_vi [.int (1 : Int32)] [] jc jw hA ho (by decide) rfl (c_X10_fails hY ho (M := M) exx3.symm) sd_X10_130 rfl hl.1 (j_hR hRf hRl rfl rfl) (Nat.le_of_ble_eq_true rfl) dX10_accept_9 (fun H locs jw => ?_)
    exact kr _ _ _ _ _ _ (congrArg Prod.fst (Option.some.inj (j_ret eG0 hE))) (congrArg Prod.snd (Option.some.inj (j_ret eG0 hE))) jw dX10_accept_12
def s_X10_least (Y : JY) (M : JM) (p1 : Int32) (p2 : Int32) : Int32 := if p2 ≤ p1 then (p2) else (p1)
set_option maxRecDepth 100000 in
set_option maxHeartbeats 4000000 in
theorem c_X10_least {D : va_G} {Y : JY} {ty : Nat → ClassId} {ad : Nat → Nat} {sz : Nat} {l : Launch} {M : JM} (hY : j_ok Y) {p1 : Int32} {p2 : Int32}  {r : Int32} (hE : s_X10_least Y M p1 p2 = r) : JMi D Y ty ad sz l yX10_least cX10_least 2 (some .int) 0 0 [.int p1, .int p2] M r M := by
  refine j_ofI hY (by decide +kernel) (Nat.le_of_ble_eq_true rfl) (fun p e s m below meth c args R Q A hRf hRl hA jc jw kr ls hl => ?_)
  have hx := jc.1
  have hb := jc.2.1
  have hl : lv_has ls 2 [(0, .int p1), (1, .int p2)] := hl
  unfold s_X10_least at hE
  obtain ⟨G0, eG0, hE⟩ := j_F0 hE
  refine lv_iload_n hx hb dX10_least_0 rfl (lv_at hl 0 rfl) ?_
  refine lv_iload_n hx hb dX10_least_1 rfl (lv_at hl 1 rfl) ?_
  refine lv_icmp_ge (tgt := 9) hx hb dX10_least_2 (by decide) (fun c1 => ?_) (fun c1 => ?_)
  · rw [if_pos c1] at hE
    refine lv_iload_n hx hb dX10_least_9 rfl (lv_at hl 1 rfl) ?_
    exact kr _ _ _ _ _ _ (j_ret eG0 hE) rfl jw dX10_least_10
  · rw [if_neg c1] at hE
    refine lv_iload_n hx hb dX10_least_5 rfl (lv_at hl 0 rfl) ?_
    refine lv_goto (tgt := 10) hx hb dX10_least_6 (by decide) ?_
    exact kr _ _ _ _ _ _ (j_ret eG0 hE) rfl jw dX10_least_10
def lp_X10_makePatch_3 (Y : JY) (mm27 : JM) (o : Nat) (p1 : Int32) (n : Nat) (vv30 : Int32) : Option (Int32) := match n with
  | 0 => none
  | n + 1 => if (mm27 o 35) ≤ (vv30 + (1 : Int32)) then (some vv30) else (if j_g (((4 : Int32) * vv30) + (4 : Int32)) (j_ln Y (j_rf Y o 34)) then (if j_g (((4 : Int32) * vv30) + (1 : Int32)) (j_ln Y (j_rf Y o 34)) then (if ((2 : Int32) * p1) < ((mm27 (j_rf Y o 34) (((4 : Int32) * vv30) + (4 : Int32)).toNatClampNeg) - (mm27 (j_rf Y o 34) (((4 : Int32) * vv30) + (1 : Int32)).toNatClampNeg)) then (some vv30) else (lt_ (vv30 + (1 : Int32)) fun vv36 => lp_X10_makePatch_3 Y mm27 o p1 n vv36)) else none) else none)
def lp_X10_makePatch_2 (Y : JY) (o : Nat) (p1 : Int32) (n : Nat) (vv26 : Int32) (mm27 : JM) : Option (JM) := match n with
  | 0 => none
  | n + 1 => if (mm27 o 35) ≤ vv26 then (some mm27) else ((lp_X10_makePatch_3 Y mm27 o p1 j_fuel vv26).bind fun xx65 => if j_g ((4 : Int32) * vv26) (j_ln Y (j_rf Y o 34)) then (lt_ (s_X10_least Y mm27 p1 (mm27 (j_rf Y o 34) ((4 : Int32) * vv26).toNatClampNeg)) fun vv40 => if j_g (((4 : Int32) * xx65) + (1 : Int32)) (j_ln Y (j_rf Y o 34)) then (lt_ (s_X10_least Y mm27 p1 ((mm27 o 27) - (mm27 (j_rf Y o 34) (((4 : Int32) * xx65) + (1 : Int32)).toNatClampNeg))) fun vv42 => lt_ ((6 : Int32) * (mm27 o 53)) fun vv43 => if j_g ((4 : Int32) * vv26) (j_ln Y (j_rf Y o 34)) then (if j_g vv43 (j_ln Y (j_rf Y o 52)) then (lt_ (j_up mm27 (j_rf Y o 52) vv43.toNatClampNeg ((mm27 (j_rf Y o 34) ((4 : Int32) * vv26).toNatClampNeg) - vv40)) fun mm47 => if j_g (((4 : Int32) * xx65) + (1 : Int32)) (j_ln Y (j_rf Y o 34)) then (if j_g vv43 (j_ln Y (j_rf Y o 52)) then (if j_g (vv43 + (1 : Int32)) (j_ln Y (j_rf Y o 52)) then (lt_ (j_up mm47 (j_rf Y o 52) (vv43 + (1 : Int32)).toNatClampNeg (((mm47 (j_rf Y o 34) (((4 : Int32) * xx65) + (1 : Int32)).toNatClampNeg) + vv42) - (mm47 (j_rf Y o 52) vv43.toNatClampNeg))) fun mm51 => if j_g (((4 : Int32) * vv26) + (2 : Int32)) (j_ln Y (j_rf Y o 34)) then (if j_g (vv43 + (2 : Int32)) (j_ln Y (j_rf Y o 52)) then (lt_ (j_up mm51 (j_rf Y o 52) (vv43 + (2 : Int32)).toNatClampNeg ((mm51 (j_rf Y o 34) (((4 : Int32) * vv26) + (2 : Int32)).toNatClampNeg) - vv40)) fun mm54 => if j_g (((4 : Int32) * xx65) + (3 : Int32)) (j_ln Y (j_rf Y o 34)) then (if j_g (vv43 + (2 : Int32)) (j_ln Y (j_rf Y o 52)) then (if j_g (vv43 + (3 : Int32)) (j_ln Y (j_rf Y o 52)) then (lt_ (j_up mm54 (j_rf Y o 52) (vv43 + (3 : Int32)).toNatClampNeg (((mm54 (j_rf Y o 34) (((4 : Int32) * xx65) + (3 : Int32)).toNatClampNeg) + vv42) - (mm54 (j_rf Y o 52) (vv43 + (2 : Int32)).toNatClampNeg))) fun mm58 => if j_g (vv43 + (4 : Int32)) (j_ln Y (j_rf Y o 52)) then (lt_ (j_up mm58 (j_rf Y o 52) (vv43 + (4 : Int32)).toNatClampNeg vv40) fun mm60 => if j_g (vv43 + (5 : Int32)) (j_ln Y (j_rf Y o 52)) then (lt_ (j_up mm60 (j_rf Y o 52) (vv43 + (5 : Int32)).toNatClampNeg vv42) fun mm62 => lt_ (j_up mm62 o 53 ((mm62 o 53) + (1 : Int32))) fun mm63 => lt_ (xx65 + (1 : Int32)) fun vv64 => lp_X10_makePatch_2 Y o p1 n vv64 mm63) else none) else none) else none) else none) else none) else none) else none) else none) else none) else none) else none) else none) else none) else none)
def lp_X10_makePatch_1 (Y : JY) (o : Nat) (n : Nat) (vv10 : Int32) (mm11 : JM) : Option (JM) := match n with
  | 0 => none
  | n + 1 => if (24 : Int32) ≤ vv10 then (some mm11) else (if j_g vv10 (j_ln Y (j_rf Y o 26)) then (if j_g vv10 (j_ln Y (j_rf Y o 54)) then (lt_ (j_up mm11 (j_rf Y o 54) vv10.toNatClampNeg (mm11 (j_rf Y o 26) vv10.toNatClampNeg)) fun mm17 => if j_g vv10 (j_ln Y (j_rf Y o 28)) then (if j_g vv10 (j_ln Y (j_rf Y o 55)) then (lt_ (j_up mm17 (j_rf Y o 55) vv10.toNatClampNeg (mm17 (j_rf Y o 28) vv10.toNatClampNeg)) fun mm22 => lt_ (vv10 + (1 : Int32)) fun vv23 => lp_X10_makePatch_1 Y o n vv23 mm22) else none) else none) else none) else none)
def s_X10_makePatch (Y : JY) (M : JM) (o : Nat) (p1 : Int32) : Option (Int32 × JM) := if (s_X10_in Y M p1 (0 : Int32) (3 : Int32)) = 0 then (lt_ (s_X10_fails Y M o (1 : Int32)) fun xx3 => some (xx3.1, xx3.2)) else (if (j_z (M o 25)) = 0 then (lt_ (s_X10_fails Y M o (2 : Int32)) fun xx5 => some (xx5.1, xx5.2)) else (lt_ (j_up M o 51 (1 : Int32)) fun mm6 => lt_ (j_up mm6 o 56 (0 : Int32)) fun mm7 => lt_ (j_up mm7 o 53 (0 : Int32)) fun mm8 => (lp_X10_makePatch_1 Y o j_fuel (0 : Int32) mm8).bind fun xx69 => (lp_X10_makePatch_2 Y o p1 j_fuel (0 : Int32) xx69).bind fun xx68 => lt_ (s_X10_done Y xx68 o (xx68 o 53)) fun xx67 => some (xx67.1, xx67.2)))
set_option maxRecDepth 100000 in
set_option maxHeartbeats 4000000 in
theorem c_X10_makePatch {D : va_G} {Y : JY} {ty : Nat → ClassId} {ad : Nat → Nat} {sz : Nat} {l : Launch} {M : JM} (hY : j_ok Y) {o : Nat} {p1 : Int32} (ho : j_kd Y o = 10) {r : Int32 × JM} (hE : s_X10_makePatch Y M o p1 = some r) : JMi D Y ty ad sz l yX10_makePatch cX10_makePatch 7 (some .int) 1 22 [.ref (ad o), .int p1] M r.1 r.2 := by
  refine j_ofI hY (by decide +kernel) (Nat.le_of_ble_eq_true rfl) (fun p e s m below meth c args R Q A hRf hRl hA jc jw kr ls hl => ?_)
  have hx := jc.1
  have hb := jc.2.1
  have hl : lv_has ls 7 [(0, .ref (ad o)), (1, .int p1)] := hl
  unfold s_X10_makePatch at hE
  obtain ⟨G0, eG0, hG0, hE⟩ := j_F0o hE
  refine lv_iload_n hx hb dX10_makePatch_0 rfl (lv_at hl 1 rfl) ?_
  refine lv_iconst (v := 0) hx hb dX10_makePatch_1 (by decide) ?_
  refine lv_iconst (v := 3) hx hb dX10_makePatch_2 (by decide) ?_
  refine jc_sz [.int p1, .int (0 : Int32), .int (3 : Int32)] [] jc jw hA (c_X10_in hY  (M := M) rfl) sd_X10_119 rfl hl.1 (j_hR hRf hRl rfl rfl) (Nat.le_of_ble_eq_true rfl) dX10_makePatch_3 (fun H locs jw hz => ?_)
  have z_1 := hz
  refine lv_if_ne (tgt := 15) hx hb dX10_makePatch_6 (by decide) (fun c2 => ?_) (fun c2 => ?_)
  · rw [if_neg c2] at hE
    refine lv_aload_n hx hb dX10_makePatch_15 rfl (lv_at hl 0 rfl) ?_
    refine jg_10_25 jc jw ho wd_6_84 dX10_makePatch_16 ?_
    refine lv_if_ne (tgt := 28) hx hb dX10_makePatch_19 (by decide) (fun c4 => ?_) (fun c4 => ?_)
    · rw [if_neg c4] at hE
      refine lv_aload_n hx hb dX10_makePatch_28 rfl (lv_at hl 0 rfl) ?_
      refine lv_iconst (v := 1) hx hb dX10_makePatch_29 (by decide) ?_
      refine js_10_51 jc jw ho wd_6_110 (by decide) dX10_makePatch_30 (fun H locs jw => ?_)
      obtain ⟨mm6, emm6, hE⟩ := j_lv hE
      rw [← emm6] at jw
      try dsimp only at hE
      refine lv_aload_n hx hb dX10_makePatch_33 rfl (lv_at hl 0 rfl) ?_
      refine lv_iconst (v := 0) hx hb dX10_makePatch_34 (by decide) ?_
      refine js_10_56 jc jw ho wd_6_115 (by decide) dX10_makePatch_35 (fun H locs jw => ?_)
      obtain ⟨mm7, emm7, hE⟩ := j_lv hE
      rw [← emm7] at jw
      try dsimp only at hE
      refine lv_aload_n hx hb dX10_makePatch_38 rfl (lv_at hl 0 rfl) ?_
      refine lv_iconst (v := 0) hx hb dX10_makePatch_39 (by decide) ?_
      refine js_10_53 jc jw ho wd_6_112 dX10_makePatch_40 (fun H locs jw => ?_)
      obtain ⟨mm8, emm8, hE⟩ := j_lv hE
      rw [← emm8] at jw
      try dsimp only at hE
      refine lv_iconst (v := 0) hx hb dX10_makePatch_43 (by decide) ?_
      refine lv_istore_n (lv' := [(2, .int (0 : Int32)), (0, .ref (ad o)), (1, .int p1)]) hx hb dX10_makePatch_44 rfl hl (by decide) rfl (fun ls hl => ?_)
      obtain ⟨G9, eG9, hG9, hE⟩ := j_ctxB hG0 hE
      have E9_81 : ∀ (mm24 : JM)  (H : Heap) (locs : List Loc) (ls : Array Slot), G9 (some mm24) = some r → JW D Y ty ad A s.heap mm24 H locs → lv_has ls 7 [(0, .ref (ad o)), (1, .int p1)] → W p l e R s m args below meth c H locs 0 0 Q (F0 m 81 ls []) := by
        intro mm24  H locs ls hE jw hl
        replace hE := j_popB eG9 hE
        try dsimp only at hE
        refine lv_iconst (v := 0) hx hb dX10_makePatch_81 (by decide) ?_
        refine lv_istore_n (lv' := [(2, .int (0 : Int32)), (0, .ref (ad o)), (1, .int p1)]) hx hb dX10_makePatch_82 rfl hl (by decide) rfl (fun ls hl => ?_)
        obtain ⟨G25, eG25, hG25, hE⟩ := j_ctxB hG0 hE
        have E25_321 : ∀ (mm66 : JM)  (H : Heap) (locs : List Loc) (ls : Array Slot), G25 (some mm66) = some r → JW D Y ty ad A s.heap mm66 H locs → lv_has ls 7 [(0, .ref (ad o))] → W p l e R s m args below meth c H locs 0 0 Q (F0 m 321 ls []) := by
          intro mm66  H locs ls hE jw hl
          replace hE := j_popB eG25 hE
          try dsimp only at hE
          refine lv_aload_n hx hb dX10_makePatch_321 rfl (lv_at hl 0 rfl) ?_
          refine lv_aload_n hx hb dX10_makePatch_322 rfl (lv_at hl 0 rfl) ?_
          refine jg_10_53 jc jw ho wd_6_112 dX10_makePatch_323 ?_
          obtain ⟨xx67, exx67, hE⟩ := j_lv hE
          try dsimp only at hE
          refine jc_vi [.int (mm66 o 53)] [] jc jw hA ho (by decide) rfl (c_X10_done hY ho (M := mm66) exx67.symm) sd_X10_138 rfl hl.1 (j_hR hRf hRl rfl rfl) (Nat.le_of_ble_eq_true rfl) dX10_makePatch_326 (fun H locs jw => ?_)
          exact kr _ _ _ _ _ _ (congrArg Prod.fst (Option.some.inj (j_ret eG0 hE))) (congrArg Prod.snd (Option.some.inj (j_ret eG0 hE))) jw dX10_makePatch_329
        have LP25 : ∀ (n : Nat) (vv26 : Int32) (mm27 : JM) (H : Heap) (locs : List Loc) (ls : Array Slot), G25 (lp_X10_makePatch_2 Y o p1 n vv26 mm27) = some r → JW D Y ty ad A s.heap mm27 H locs → lv_has ls 7 [(2, .int vv26), (0, .ref (ad o)), (1, .int p1)] → W p l e R s m args below meth c H locs 0 0 Q (F0 m 83 ls []) := by
          intro n
          induction n with
          | zero => intro vv26 mm27 H locs ls hE jw hl; exact absurd hE (hG25 _)
          | succ n ih =>
            intro vv26 mm27 H locs ls hE jw hl
            rw [lp_X10_makePatch_2] at hE
            refine lv_iload_n hx hb dX10_makePatch_83 rfl (lv_at hl 0 rfl) ?_
            refine lv_aload_n hx hb dX10_makePatch_84 rfl (lv_at hl 1 rfl) ?_
            refine jg_10_35 jc jw ho wd_6_94 dX10_makePatch_85 ?_
            refine lv_icmp_ge (tgt := 321) hx hb dX10_makePatch_88 (by decide) (fun c28 => ?_) (fun c28 => ?_)
            · rw [if_pos c28] at hE
              exact E25_321 mm27  H locs ls hE jw (lv_sub hl [1] rfl)
            · rw [if_neg c28] at hE
              refine lv_iload_n hx hb dX10_makePatch_91 rfl (lv_at hl 0 rfl) ?_
              refine lv_istore_n (lv' := [(3, .int vv26), (2, .int vv26), (0, .ref (ad o)), (1, .int p1)]) hx hb dX10_makePatch_92 rfl hl (by decide) rfl (fun ls hl => ?_)
              obtain ⟨G29, eG29, hG29, hE⟩ := j_ctxB hG25 hE
              have E29_136 : ∀ (vv37 : Int32)  (H : Heap) (locs : List Loc) (ls : Array Slot), G29 (some vv37) = some r → JW D Y ty ad A s.heap mm27 H locs → lv_has ls 7 [(3, .int vv37), (2, .int vv26), (0, .ref (ad o)), (1, .int p1)] → W p l e R s m args below meth c H locs 0 0 Q (F0 m 136 ls []) := by
                intro vv37  H locs ls hE jw hl
                replace hE := j_popB eG29 hE
                try dsimp only at hE
                refine lv_iload_n hx hb dX10_makePatch_136 rfl (lv_at hl 3 rfl) ?_
                refine lv_aload_n hx hb dX10_makePatch_137 rfl (lv_at hl 2 rfl) ?_
                refine jg_10_34 jc jw ho wd_6_93 dX10_makePatch_138 ?_
                have k38 := j_sub hY ho 34 (f := 100) rfl (by decide) (by decide) (by decide)
                refine lv_iconst (v := 4) hx hb dX10_makePatch_141 (by decide) ?_
                refine lv_iload_n hx hb dX10_makePatch_142 rfl (lv_at hl 1 rfl) ?_
                refine lv_imul hx hb dX10_makePatch_143 ?_
                rcases Classical.em (j_g ((4 : Int32) * vv26) (j_ln Y (j_rf Y o 34))) with g39 | g39
                case inr => rw [if_neg g39] at hE; exact absurd hE (hG25 _)
                rw [if_pos g39] at hE
                refine jr_iald jc jw k38 (j_g_in g39) dX10_makePatch_144 ?_
                refine jc_si [.int p1, .int (mm27 (j_rf Y o 34) ((4 : Int32) * vv26).toNatClampNeg)] [] jc jw hA (c_X10_least hY  (M := mm27) rfl) sd_X10_305 rfl hl.1 (j_hR hRf hRl rfl rfl) (Nat.le_of_ble_eq_true rfl) dX10_makePatch_145 (fun H locs jw => ?_)
                refine lv_topi (fun vv40 evv40 => ?_)
                replace hE := j_lu hE evv40
                try dsimp only at hE
                refine lv_istore (lv' := [(4, .int vv40), (3, .int vv37), (2, .int vv26), (0, .ref (ad o)), (1, .int p1)]) hx hb dX10_makePatch_148 hl (by decide) rfl (fun ls hl => ?_)
                refine lv_iload_n hx hb dX10_makePatch_150 rfl (lv_at hl 4 rfl) ?_
                refine lv_aload_n hx hb dX10_makePatch_151 rfl (lv_at hl 3 rfl) ?_
                refine jg_10_27 jc jw ho wd_6_86 dX10_makePatch_152 ?_
                refine lv_aload_n hx hb dX10_makePatch_155 rfl (lv_at hl 3 rfl) ?_
                refine jg_10_34 jc jw ho wd_6_93 dX10_makePatch_156 ?_
                refine lv_iconst (v := 4) hx hb dX10_makePatch_159 (by decide) ?_
                refine lv_iload_n hx hb dX10_makePatch_160 rfl (lv_at hl 1 rfl) ?_
                refine lv_imul hx hb dX10_makePatch_161 ?_
                refine lv_iconst (v := 1) hx hb dX10_makePatch_162 (by decide) ?_
                refine lv_iadd hx hb dX10_makePatch_163 ?_
                rcases Classical.em (j_g (((4 : Int32) * vv37) + (1 : Int32)) (j_ln Y (j_rf Y o 34))) with g41 | g41
                case inr => rw [if_neg g41] at hE; exact absurd hE (hG25 _)
                rw [if_pos g41] at hE
                refine jr_iald jc jw k38 (j_g_in g41) dX10_makePatch_164 ?_
                refine lv_isub hx hb dX10_makePatch_165 ?_
                refine jc_si [.int p1, .int ((mm27 o 27) - (mm27 (j_rf Y o 34) (((4 : Int32) * vv37) + (1 : Int32)).toNatClampNeg))] [] jc jw hA (c_X10_least hY  (M := mm27) rfl) sd_X10_305 rfl hl.1 (j_hR hRf hRl rfl rfl) (Nat.le_of_ble_eq_true rfl) dX10_makePatch_166 (fun H locs jw => ?_)
                refine lv_topi (fun vv42 evv42 => ?_)
                replace hE := j_lu hE evv42
                try dsimp only at hE
                refine lv_istore (lv' := [(5, .int vv42), (4, .int vv40), (3, .int vv37), (2, .int vv26), (0, .ref (ad o)), (1, .int p1)]) hx hb dX10_makePatch_169 hl (by decide) rfl (fun ls hl => ?_)
                refine lv_bipush (v := 6) hx hb dX10_makePatch_171 (by decide) ?_
                refine lv_aload_n hx hb dX10_makePatch_173 rfl (lv_at hl 4 rfl) ?_
                refine jg_10_53 jc jw ho wd_6_112 dX10_makePatch_174 ?_
                refine lv_imul hx hb dX10_makePatch_177 ?_
                refine lv_topi (fun vv43 evv43 => ?_)
                replace hE := j_lu hE evv43
                try dsimp only at hE
                refine lv_istore (lv' := [(6, .int vv43), (5, .int vv42), (4, .int vv40), (3, .int vv37), (2, .int vv26), (0, .ref (ad o)), (1, .int p1)]) hx hb dX10_makePatch_178 hl (by decide) rfl (fun ls hl => ?_)
                refine lv_aload_n hx hb dX10_makePatch_180 rfl (lv_at hl 5 rfl) ?_
                refine jg_10_52 jc jw ho wd_6_111 dX10_makePatch_181 ?_
                have k44 := j_sub hY ho 52 (f := 100) rfl (by decide) (by decide) (by decide)
                refine lv_iload hx hb dX10_makePatch_184 (lv_at hl 0 rfl) ?_
                refine lv_aload_n hx hb dX10_makePatch_186 rfl (lv_at hl 5 rfl) ?_
                refine jg_10_34 jc jw ho wd_6_93 dX10_makePatch_187 ?_
                refine lv_iconst (v := 4) hx hb dX10_makePatch_190 (by decide) ?_
                refine lv_iload_n hx hb dX10_makePatch_191 rfl (lv_at hl 4 rfl) ?_
                refine lv_imul hx hb dX10_makePatch_192 ?_
                rcases Classical.em (j_g ((4 : Int32) * vv26) (j_ln Y (j_rf Y o 34))) with g45 | g45
                case inr => rw [if_neg g45] at hE; exact absurd hE (hG25 _)
                rw [if_pos g45] at hE
                refine jr_iald jc jw k38 (j_g_in g45) dX10_makePatch_193 ?_
                refine lv_iload hx hb dX10_makePatch_194 (lv_at hl 2 rfl) ?_
                refine lv_isub hx hb dX10_makePatch_196 ?_
                rcases Classical.em (j_g vv43 (j_ln Y (j_rf Y o 52))) with g46 | g46
                case inr => rw [if_neg g46] at hE; exact absurd hE (hG25 _)
                rw [if_pos g46] at hE
                refine jr_iast jc jw k44 (j_g_in g46) dX10_makePatch_197 (fun H locs jw => ?_)
                obtain ⟨mm47, emm47, hE⟩ := j_lv hE
                rw [← emm47] at jw
                try dsimp only at hE
                refine lv_aload_n hx hb dX10_makePatch_198 rfl (lv_at hl 5 rfl) ?_
                refine jg_10_52 jc jw ho wd_6_111 dX10_makePatch_199 ?_
                refine lv_iload hx hb dX10_makePatch_202 (lv_at hl 0 rfl) ?_
                refine lv_iconst (v := 1) hx hb dX10_makePatch_204 (by decide) ?_
                refine lv_iadd hx hb dX10_makePatch_205 ?_
                refine lv_aload_n hx hb dX10_makePatch_206 rfl (lv_at hl 5 rfl) ?_
                refine jg_10_34 jc jw ho wd_6_93 dX10_makePatch_207 ?_
                refine lv_iconst (v := 4) hx hb dX10_makePatch_210 (by decide) ?_
                refine lv_iload_n hx hb dX10_makePatch_211 rfl (lv_at hl 3 rfl) ?_
                refine lv_imul hx hb dX10_makePatch_212 ?_
                refine lv_iconst (v := 1) hx hb dX10_makePatch_213 (by decide) ?_
                refine lv_iadd hx hb dX10_makePatch_214 ?_
                rcases Classical.em (j_g (((4 : Int32) * vv37) + (1 : Int32)) (j_ln Y (j_rf Y o 34))) with g48 | g48
                case inr => rw [if_neg g48] at hE; exact absurd hE (hG25 _)
                rw [if_pos g48] at hE
                refine jr_iald jc jw k38 (j_g_in g48) dX10_makePatch_215 ?_
                refine lv_iload hx hb dX10_makePatch_216 (lv_at hl 1 rfl) ?_
                refine lv_iadd hx hb dX10_makePatch_218 ?_
                refine lv_aload_n hx hb dX10_makePatch_219 rfl (lv_at hl 5 rfl) ?_
                refine jg_10_52 jc jw ho wd_6_111 dX10_makePatch_220 ?_
                refine lv_iload hx hb dX10_makePatch_223 (lv_at hl 0 rfl) ?_
                rcases Classical.em (j_g vv43 (j_ln Y (j_rf Y o 52))) with g49 | g49
                case inr => rw [if_neg g49] at hE; exact absurd hE (hG25 _)
                rw [if_pos g49] at hE
                refine jr_iald jc jw k44 (j_g_in g49) dX10_makePatch_225 ?_
                refine lv_isub hx hb dX10_makePatch_226 ?_
                rcases Classical.em (j_g (vv43 + (1 : Int32)) (j_ln Y (j_rf Y o 52))) with g50 | g50
                case inr => rw [if_neg g50] at hE; exact absurd hE (hG25 _)
                rw [if_pos g50] at hE
                refine jr_iast jc jw k44 (j_g_in g50) dX10_makePatch_227 (fun H locs jw => ?_)
                obtain ⟨mm51, emm51, hE⟩ := j_lv hE
                rw [← emm51] at jw
                try dsimp only at hE
                refine lv_aload_n hx hb dX10_makePatch_228 rfl (lv_at hl 5 rfl) ?_
                refine jg_10_52 jc jw ho wd_6_111 dX10_makePatch_229 ?_
                refine lv_iload hx hb dX10_makePatch_232 (lv_at hl 0 rfl) ?_
                refine lv_iconst (v := 2) hx hb dX10_makePatch_234 (by decide) ?_
                refine lv_iadd hx hb dX10_makePatch_235 ?_
                refine lv_aload_n hx hb dX10_makePatch_236 rfl (lv_at hl 5 rfl) ?_
                refine jg_10_34 jc jw ho wd_6_93 dX10_makePatch_237 ?_
                refine lv_iconst (v := 4) hx hb dX10_makePatch_240 (by decide) ?_
                refine lv_iload_n hx hb dX10_makePatch_241 rfl (lv_at hl 4 rfl) ?_
                refine lv_imul hx hb dX10_makePatch_242 ?_
                refine lv_iconst (v := 2) hx hb dX10_makePatch_243 (by decide) ?_
                refine lv_iadd hx hb dX10_makePatch_244 ?_
                rcases Classical.em (j_g (((4 : Int32) * vv26) + (2 : Int32)) (j_ln Y (j_rf Y o 34))) with g52 | g52
                case inr => rw [if_neg g52] at hE; exact absurd hE (hG25 _)
                rw [if_pos g52] at hE
                refine jr_iald jc jw k38 (j_g_in g52) dX10_makePatch_245 ?_
                refine lv_iload hx hb dX10_makePatch_246 (lv_at hl 2 rfl) ?_
                refine lv_isub hx hb dX10_makePatch_248 ?_
                rcases Classical.em (j_g (vv43 + (2 : Int32)) (j_ln Y (j_rf Y o 52))) with g53 | g53
                case inr => rw [if_neg g53] at hE; exact absurd hE (hG25 _)
                rw [if_pos g53] at hE
                refine jr_iast jc jw k44 (j_g_in g53) dX10_makePatch_249 (fun H locs jw => ?_)
                obtain ⟨mm54, emm54, hE⟩ := j_lv hE
                rw [← emm54] at jw
                try dsimp only at hE
                refine lv_aload_n hx hb dX10_makePatch_250 rfl (lv_at hl 5 rfl) ?_
                refine jg_10_52 jc jw ho wd_6_111 dX10_makePatch_251 ?_
                refine lv_iload hx hb dX10_makePatch_254 (lv_at hl 0 rfl) ?_
                refine lv_iconst (v := 3) hx hb dX10_makePatch_256 (by decide) ?_
                refine lv_iadd hx hb dX10_makePatch_257 ?_
                refine lv_aload_n hx hb dX10_makePatch_258 rfl (lv_at hl 5 rfl) ?_
                refine jg_10_34 jc jw ho wd_6_93 dX10_makePatch_259 ?_
                refine lv_iconst (v := 4) hx hb dX10_makePatch_262 (by decide) ?_
                refine lv_iload_n hx hb dX10_makePatch_263 rfl (lv_at hl 3 rfl) ?_
                refine lv_imul hx hb dX10_makePatch_264 ?_
                refine lv_iconst (v := 3) hx hb dX10_makePatch_265 (by decide) ?_
                refine lv_iadd hx hb dX10_makePatch_266 ?_
                rcases Classical.em (j_g (((4 : Int32) * vv37) + (3 : Int32)) (j_ln Y (j_rf Y o 34))) with g55 | g55
                case inr => rw [if_neg g55] at hE; exact absurd hE (hG25 _)
                rw [if_pos g55] at hE
                refine jr_iald jc jw k38 (j_g_in g55) dX10_makePatch_267 ?_
                refine lv_iload hx hb dX10_makePatch_268 (lv_at hl 1 rfl) ?_
                refine lv_iadd hx hb dX10_makePatch_270 ?_
                refine lv_aload_n hx hb dX10_makePatch_271 rfl (lv_at hl 5 rfl) ?_
                refine jg_10_52 jc jw ho wd_6_111 dX10_makePatch_272 ?_
                refine lv_iload hx hb dX10_makePatch_275 (lv_at hl 0 rfl) ?_
                refine lv_iconst (v := 2) hx hb dX10_makePatch_277 (by decide) ?_
                refine lv_iadd hx hb dX10_makePatch_278 ?_
                rcases Classical.em (j_g (vv43 + (2 : Int32)) (j_ln Y (j_rf Y o 52))) with g56 | g56
                case inr => rw [if_neg g56] at hE; exact absurd hE (hG25 _)
                rw [if_pos g56] at hE
                refine jr_iald jc jw k44 (j_g_in g56) dX10_makePatch_279 ?_
                refine lv_isub hx hb dX10_makePatch_280 ?_
                rcases Classical.em (j_g (vv43 + (3 : Int32)) (j_ln Y (j_rf Y o 52))) with g57 | g57
                case inr => rw [if_neg g57] at hE; exact absurd hE (hG25 _)
                rw [if_pos g57] at hE
                refine jr_iast jc jw k44 (j_g_in g57) dX10_makePatch_281 (fun H locs jw => ?_)
                obtain ⟨mm58, emm58, hE⟩ := j_lv hE
                rw [← emm58] at jw
                try dsimp only at hE
                refine lv_aload_n hx hb dX10_makePatch_282 rfl (lv_at hl 5 rfl) ?_
                refine jg_10_52 jc jw ho wd_6_111 dX10_makePatch_283 ?_
                refine lv_iload hx hb dX10_makePatch_286 (lv_at hl 0 rfl) ?_
                refine lv_iconst (v := 4) hx hb dX10_makePatch_288 (by decide) ?_
                refine lv_iadd hx hb dX10_makePatch_289 ?_
                refine lv_iload hx hb dX10_makePatch_290 (lv_at hl 2 rfl) ?_
                rcases Classical.em (j_g (vv43 + (4 : Int32)) (j_ln Y (j_rf Y o 52))) with g59 | g59
                case inr => rw [if_neg g59] at hE; exact absurd hE (hG25 _)
                rw [if_pos g59] at hE
                refine jr_iast jc jw k44 (j_g_in g59) dX10_makePatch_292 (fun H locs jw => ?_)
                obtain ⟨mm60, emm60, hE⟩ := j_lv hE
                rw [← emm60] at jw
                try dsimp only at hE
                refine lv_aload_n hx hb dX10_makePatch_293 rfl (lv_at hl 5 rfl) ?_
                refine jg_10_52 jc jw ho wd_6_111 dX10_makePatch_294 ?_
                refine lv_iload hx hb dX10_makePatch_297 (lv_at hl 0 rfl) ?_
                refine lv_iconst (v := 5) hx hb dX10_makePatch_299 (by decide) ?_
                refine lv_iadd hx hb dX10_makePatch_300 ?_
                refine lv_iload hx hb dX10_makePatch_301 (lv_at hl 1 rfl) ?_
                rcases Classical.em (j_g (vv43 + (5 : Int32)) (j_ln Y (j_rf Y o 52))) with g61 | g61
                case inr => rw [if_neg g61] at hE; exact absurd hE (hG25 _)
                rw [if_pos g61] at hE
                refine jr_iast jc jw k44 (j_g_in g61) dX10_makePatch_303 (fun H locs jw => ?_)
                obtain ⟨mm62, emm62, hE⟩ := j_lv hE
                rw [← emm62] at jw
                try dsimp only at hE
                refine lv_aload_n hx hb dX10_makePatch_304 rfl (lv_at hl 5 rfl) ?_
                refine lv_dup hx hb dX10_makePatch_305 rfl ?_
                refine jg_10_53 jc jw ho wd_6_112 dX10_makePatch_306 ?_
                refine lv_iconst (v := 1) hx hb dX10_makePatch_309 (by decide) ?_
                refine lv_iadd hx hb dX10_makePatch_310 ?_
                refine js_10_53 jc jw ho wd_6_112 dX10_makePatch_311 (fun H locs jw => ?_)
                obtain ⟨mm63, emm63, hE⟩ := j_lv hE
                rw [← emm63] at jw
                try dsimp only at hE
                refine lv_iload_n hx hb dX10_makePatch_314 rfl (lv_at hl 3 rfl) ?_
                refine lv_iconst (v := 1) hx hb dX10_makePatch_315 (by decide) ?_
                refine lv_iadd hx hb dX10_makePatch_316 ?_
                refine lv_topi (fun vv64 evv64 => ?_)
                replace hE := j_lu hE evv64
                try dsimp only at hE
                refine lv_istore_n (lv' := [(2, .int vv64), (6, .int vv43), (5, .int vv42), (4, .int vv40), (3, .int vv37), (0, .ref (ad o)), (1, .int p1)]) hx hb dX10_makePatch_317 rfl hl (by decide) rfl (fun ls hl => ?_)
                refine lv_goto (tgt := 83) hx hb dX10_makePatch_318 (by decide) ?_
                exact ih vv64 mm63 H locs ls hE jw (lv_sub hl [0, 5, 6] rfl)
              have LP29 : ∀ (n : Nat) (vv30 : Int32) (H : Heap) (locs : List Loc) (ls : Array Slot), G29 (lp_X10_makePatch_3 Y mm27 o p1 n vv30) = some r → JW D Y ty ad A s.heap mm27 H locs → lv_has ls 7 [(3, .int vv30), (2, .int vv26), (0, .ref (ad o)), (1, .int p1)] → W p l e R s m args below meth c H locs 0 0 Q (F0 m 93 ls []) := by
                intro n
                induction n with
                | zero => intro vv30 H locs ls hE jw hl; exact absurd hE (hG29 _)
                | succ n ih =>
                  intro vv30 H locs ls hE jw hl
                  rw [lp_X10_makePatch_3] at hE
                  refine lv_iload_n hx hb dX10_makePatch_93 rfl (lv_at hl 0 rfl) ?_
                  refine lv_iconst (v := 1) hx hb dX10_makePatch_94 (by decide) ?_
                  refine lv_iadd hx hb dX10_makePatch_95 ?_
                  refine lv_aload_n hx hb dX10_makePatch_96 rfl (lv_at hl 2 rfl) ?_
                  refine jg_10_35 jc jw ho wd_6_94 dX10_makePatch_97 ?_
                  refine lv_icmp_ge (tgt := 136) hx hb dX10_makePatch_100 (by decide) (fun c31 => ?_) (fun c31 => ?_)
                  · rw [if_pos c31] at hE
                    exact E29_136 vv30  H locs ls hE jw (lv_sub hl [0, 1, 2, 3] rfl)
                  · rw [if_neg c31] at hE
                    refine lv_aload_n hx hb dX10_makePatch_103 rfl (lv_at hl 2 rfl) ?_
                    refine jg_10_34 jc jw ho wd_6_93 dX10_makePatch_104 ?_
                    have k32 := j_sub hY ho 34 (f := 100) rfl (by decide) (by decide) (by decide)
                    refine lv_iconst (v := 4) hx hb dX10_makePatch_107 (by decide) ?_
                    refine lv_iload_n hx hb dX10_makePatch_108 rfl (lv_at hl 0 rfl) ?_
                    refine lv_imul hx hb dX10_makePatch_109 ?_
                    refine lv_iconst (v := 4) hx hb dX10_makePatch_110 (by decide) ?_
                    refine lv_iadd hx hb dX10_makePatch_111 ?_
                    rcases Classical.em (j_g (((4 : Int32) * vv30) + (4 : Int32)) (j_ln Y (j_rf Y o 34))) with g33 | g33
                    case inr => rw [if_neg g33] at hE; exact absurd hE (hG29 _)
                    rw [if_pos g33] at hE
                    refine jr_iald jc jw k32 (j_g_in g33) dX10_makePatch_112 ?_
                    refine lv_aload_n hx hb dX10_makePatch_113 rfl (lv_at hl 2 rfl) ?_
                    refine jg_10_34 jc jw ho wd_6_93 dX10_makePatch_114 ?_
                    refine lv_iconst (v := 4) hx hb dX10_makePatch_117 (by decide) ?_
                    refine lv_iload_n hx hb dX10_makePatch_118 rfl (lv_at hl 0 rfl) ?_
                    refine lv_imul hx hb dX10_makePatch_119 ?_
                    refine lv_iconst (v := 1) hx hb dX10_makePatch_120 (by decide) ?_
                    refine lv_iadd hx hb dX10_makePatch_121 ?_
                    rcases Classical.em (j_g (((4 : Int32) * vv30) + (1 : Int32)) (j_ln Y (j_rf Y o 34))) with g34 | g34
                    case inr => rw [if_neg g34] at hE; exact absurd hE (hG29 _)
                    rw [if_pos g34] at hE
                    refine jr_iald jc jw k32 (j_g_in g34) dX10_makePatch_122 ?_
                    refine lv_isub hx hb dX10_makePatch_123 ?_
                    refine lv_iconst (v := 2) hx hb dX10_makePatch_124 (by decide) ?_
                    refine lv_iload_n hx hb dX10_makePatch_125 rfl (lv_at hl 3 rfl) ?_
                    refine lv_imul hx hb dX10_makePatch_126 ?_
                    refine lv_icmp_gt (tgt := 136) hx hb dX10_makePatch_127 (by decide) (fun c35 => ?_) (fun c35 => ?_)
                    · rw [if_pos c35] at hE
                      exact E29_136 vv30  H locs ls hE jw (lv_sub hl [0, 1, 2, 3] rfl)
                    · rw [if_neg c35] at hE
                      obtain ⟨vv36, evv36, hE⟩ := j_lv hE
                      try dsimp only at hE
                      refine lv_iinc (v := vv36) (lv' := [(3, .int vv36), (2, .int vv26), (0, .ref (ad o)), (1, .int p1)]) hx hb dX10_makePatch_130 hl (k := 0) rfl (by rw [evv36]; rfl) (by decide) rfl (fun ls hl => ?_)
                      refine lv_goto (tgt := 93) hx hb dX10_makePatch_133 (by decide) ?_
                      exact ih vv36 H locs ls hE jw (lv_sub hl [0, 1, 2, 3] rfl)
              exact LP29 j_fuel vv26 H locs ls hE jw (lv_sub hl [0, 1, 2, 3] rfl)
        exact LP25 j_fuel (0 : Int32) mm24 H locs ls hE jw (lv_sub hl [0, 1, 2] rfl)
      have LP9 : ∀ (n : Nat) (vv10 : Int32) (mm11 : JM) (H : Heap) (locs : List Loc) (ls : Array Slot), G9 (lp_X10_makePatch_1 Y o n vv10 mm11) = some r → JW D Y ty ad A s.heap mm11 H locs → lv_has ls 7 [(2, .int vv10), (0, .ref (ad o)), (1, .int p1)] → W p l e R s m args below meth c H locs 0 0 Q (F0 m 45 ls []) := by
        intro n
        induction n with
        | zero => intro vv10 mm11 H locs ls hE jw hl; exact absurd hE (hG9 _)
        | succ n ih =>
          intro vv10 mm11 H locs ls hE jw hl
          rw [lp_X10_makePatch_1] at hE
          refine lv_iload_n hx hb dX10_makePatch_45 rfl (lv_at hl 0 rfl) ?_
          refine lv_bipush (v := 24) hx hb dX10_makePatch_46 (by decide) ?_
          refine lv_icmp_ge (tgt := 81) hx hb dX10_makePatch_48 (by decide) (fun c12 => ?_) (fun c12 => ?_)
          · rw [if_pos c12] at hE
            exact E9_81 mm11  H locs ls hE jw (lv_sub hl [1, 2] rfl)
          · rw [if_neg c12] at hE
            refine lv_aload_n hx hb dX10_makePatch_51 rfl (lv_at hl 1 rfl) ?_
            refine jg_10_54 jc jw ho wd_6_113 dX10_makePatch_52 ?_
            have k13 := j_sub hY ho 54 (f := 100) rfl (by decide) (by decide) (by decide)
            refine lv_iload_n hx hb dX10_makePatch_55 rfl (lv_at hl 0 rfl) ?_
            refine lv_aload_n hx hb dX10_makePatch_56 rfl (lv_at hl 1 rfl) ?_
            refine jg_10_26 jc jw ho wd_6_85 dX10_makePatch_57 ?_
            have k14 := j_sub hY ho 26 (f := 100) rfl (by decide) (by decide) (by decide)
            refine lv_iload_n hx hb dX10_makePatch_60 rfl (lv_at hl 0 rfl) ?_
            rcases Classical.em (j_g vv10 (j_ln Y (j_rf Y o 26))) with g15 | g15
            case inr => rw [if_neg g15] at hE; exact absurd hE (hG9 _)
            rw [if_pos g15] at hE
            refine jr_iald jc jw k14 (j_g_in g15) dX10_makePatch_61 ?_
            rcases Classical.em (j_g vv10 (j_ln Y (j_rf Y o 54))) with g16 | g16
            case inr => rw [if_neg g16] at hE; exact absurd hE (hG9 _)
            rw [if_pos g16] at hE
            refine jr_iast jc jw k13 (j_g_in g16) dX10_makePatch_62 (fun H locs jw => ?_)
            obtain ⟨mm17, emm17, hE⟩ := j_lv hE
            rw [← emm17] at jw
            try dsimp only at hE
            refine lv_aload_n hx hb dX10_makePatch_63 rfl (lv_at hl 1 rfl) ?_
            refine jg_10_55 jc jw ho wd_6_114 dX10_makePatch_64 ?_
            have k18 := j_sub hY ho 55 (f := 100) rfl (by decide) (by decide) (by decide)
            refine lv_iload_n hx hb dX10_makePatch_67 rfl (lv_at hl 0 rfl) ?_
            refine lv_aload_n hx hb dX10_makePatch_68 rfl (lv_at hl 1 rfl) ?_
            refine jg_10_28 jc jw ho wd_6_87 dX10_makePatch_69 ?_
            have k19 := j_sub hY ho 28 (f := 100) rfl (by decide) (by decide) (by decide)
            refine lv_iload_n hx hb dX10_makePatch_72 rfl (lv_at hl 0 rfl) ?_
            rcases Classical.em (j_g vv10 (j_ln Y (j_rf Y o 28))) with g20 | g20
            case inr => rw [if_neg g20] at hE; exact absurd hE (hG9 _)
            rw [if_pos g20] at hE
            refine jr_iald jc jw k19 (j_g_in g20) dX10_makePatch_73 ?_
            rcases Classical.em (j_g vv10 (j_ln Y (j_rf Y o 55))) with g21 | g21
            case inr => rw [if_neg g21] at hE; exact absurd hE (hG9 _)
            rw [if_pos g21] at hE
            refine jr_iast jc jw k18 (j_g_in g21) dX10_makePatch_74 (fun H locs jw => ?_)
            obtain ⟨mm22, emm22, hE⟩ := j_lv hE
            rw [← emm22] at jw
            try dsimp only at hE
            obtain ⟨vv23, evv23, hE⟩ := j_lv hE
            try dsimp only at hE
            refine lv_iinc (v := vv23) (lv' := [(2, .int vv23), (0, .ref (ad o)), (1, .int p1)]) hx hb dX10_makePatch_75 hl (k := 0) rfl (by rw [evv23]; rfl) (by decide) rfl (fun ls hl => ?_)
            refine lv_goto (tgt := 45) hx hb dX10_makePatch_78 (by decide) ?_
            exact ih vv23 mm22 H locs ls hE jw (lv_sub hl [0, 1, 2] rfl)
      exact LP9 j_fuel (0 : Int32) mm8 H locs ls hE jw (lv_sub hl [0, 1, 2] rfl)
    · rw [if_pos c4] at hE
      refine lv_aload_n hx hb dX10_makePatch_22 rfl (lv_at hl 0 rfl) ?_
      refine lv_iconst (v := 2) hx hb dX10_makePatch_23 (by decide) ?_
      obtain ⟨xx5, exx5, hE⟩ := j_lv hE
      try dsimp only at hE
      refine jc_vi [.int (2 : Int32)] [] jc jw hA ho (by decide) rfl (c_X10_fails hY ho (M := M) exx5.symm) sd_X10_130 rfl hl.1 (j_hR hRf hRl rfl rfl) (Nat.le_of_ble_eq_true rfl) dX10_makePatch_24 (fun H locs jw => ?_)
      exact kr _ _ _ _ _ _ (congrArg Prod.fst (Option.some.inj (j_ret eG0 hE))) (congrArg Prod.snd (Option.some.inj (j_ret eG0 hE))) jw dX10_makePatch_27
  · rw [if_pos c2] at hE
    refine lv_aload_n hx hb dX10_makePatch_9 rfl (lv_at hl 0 rfl) ?_
    refine lv_iconst (v := 1) hx hb dX10_makePatch_10 (by decide) ?_
    obtain ⟨xx3, exx3, hE⟩ := j_lv hE
    try dsimp only at hE
    refine jc_vi [.int (1 : Int32)] [] jc jw hA ho (by decide) rfl (c_X10_fails hY ho (M := M) exx3.symm) sd_X10_130 rfl hl.1 (j_hR hRf hRl rfl rfl) (Nat.le_of_ble_eq_true rfl) dX10_makePatch_11 (fun H locs jw => ?_)
    exact kr _ _ _ _ _ _ (congrArg Prod.fst (Option.some.inj (j_ret eG0 hE))) (congrArg Prod.snd (Option.some.inj (j_ret eG0 hE))) jw dX10_makePatch_14
def s_X10_hunk (Y : JY) (M : JM) (o : Nat) (p1 : Int32) (p2 : Int32) : Option (Int32 × JM) := if (j_z (M o 51)) = 0 then (lt_ (s_X10_fails Y M o (1 : Int32)) fun xx2 => some (xx2.1, xx2.2)) else (if (s_X10_in Y M p1 (0 : Int32) ((M o 53) - (1 : Int32))) = 0 then (lt_ (s_X10_fails Y M o (2 : Int32)) fun xx5 => some (xx5.1, xx5.2)) else (if (s_X10_in Y M p2 (0 : Int32) (5 : Int32)) = 0 then (lt_ (s_X10_fails Y M o (3 : Int32)) fun xx8 => some (xx8.1, xx8.2)) else (if j_g (((6 : Int32) * p1) + p2) (j_ln Y (j_rf Y o 52)) then (lt_ (s_X10_done Y M o (M (j_rf Y o 52) (((6 : Int32) * p1) + p2).toNatClampNeg)) fun xx11 => some (xx11.1, xx11.2)) else none)))
set_option maxRecDepth 100000 in
set_option maxHeartbeats 4000000 in
theorem c_X10_hunk {D : va_G} {Y : JY} {ty : Nat → ClassId} {ad : Nat → Nat} {sz : Nat} {l : Launch} {M : JM} (hY : j_ok Y) {o : Nat} {p1 : Int32} {p2 : Int32} (ho : j_kd Y o = 10) {r : Int32 × JM} (hE : s_X10_hunk Y M o p1 p2 = some r) : JMi D Y ty ad sz l yX10_hunk cX10_hunk 3 (some .int) 1 22 [.ref (ad o), .int p1, .int p2] M r.1 r.2 := by
  refine j_ofI hY (by decide +kernel) (Nat.le_of_ble_eq_true rfl) (fun p e s m below meth c args R Q A hRf hRl hA jc jw kr ls hl => ?_)
  have hx := jc.1
  have hb := jc.2.1
  have hl : lv_has ls 3 [(0, .ref (ad o)), (1, .int p1), (2, .int p2)] := hl
  unfold s_X10_hunk at hE
  obtain ⟨G0, eG0, hG0, hE⟩ := j_F0o hE
  refine lv_aload_n hx hb dX10_hunk_0 rfl (lv_at hl 0 rfl) ?_
  refine jg_10_51 jc jw ho wd_6_110 dX10_hunk_1 ?_
  refine lv_if_ne (tgt := 13) hx hb dX10_hunk_4 (by decide) (fun c1 => ?_) (fun c1 => ?_)
  · rw [if_neg c1] at hE
    refine lv_iload_n hx hb dX10_hunk_13 rfl (lv_at hl 1 rfl) ?_
    refine lv_iconst (v := 0) hx hb dX10_hunk_14 (by decide) ?_
    refine lv_aload_n hx hb dX10_hunk_15 rfl (lv_at hl 0 rfl) ?_
    refine jg_10_53 jc jw ho wd_6_112 dX10_hunk_16 ?_
    refine lv_iconst (v := 1) hx hb dX10_hunk_19 (by decide) ?_
    refine lv_isub hx hb dX10_hunk_20 ?_
    refine jc_sz [.int p1, .int (0 : Int32), .int ((M o 53) - (1 : Int32))] [] jc jw hA (c_X10_in hY  (M := M) rfl) sd_X10_119 rfl hl.1 (j_hR hRf hRl rfl rfl) (Nat.le_of_ble_eq_true rfl) dX10_hunk_21 (fun H locs jw hz => ?_)
    have z_3 := hz
    refine lv_if_ne (tgt := 33) hx hb dX10_hunk_24 (by decide) (fun c4 => ?_) (fun c4 => ?_)
    · rw [if_neg c4] at hE
      refine lv_iload_n hx hb dX10_hunk_33 rfl (lv_at hl 2 rfl) ?_
      refine lv_iconst (v := 0) hx hb dX10_hunk_34 (by decide) ?_
      refine lv_iconst (v := 5) hx hb dX10_hunk_35 (by decide) ?_
      refine jc_sz [.int p2, .int (0 : Int32), .int (5 : Int32)] [] jc jw hA (c_X10_in hY  (M := M) rfl) sd_X10_119 rfl hl.1 (j_hR hRf hRl rfl rfl) (Nat.le_of_ble_eq_true rfl) dX10_hunk_36 (fun H locs jw hz => ?_)
      have z_6 := hz
      refine lv_if_eq (tgt := 60) hx hb dX10_hunk_39 (by decide) (fun c7 => ?_) (fun c7 => ?_)
      · rw [if_pos c7] at hE
        refine lv_aload_n hx hb dX10_hunk_60 rfl (lv_at hl 0 rfl) ?_
        refine lv_iconst (v := 3) hx hb dX10_hunk_61 (by decide) ?_
        obtain ⟨xx8, exx8, hE⟩ := j_lv hE
        try dsimp only at hE
        refine jc_vi [.int (3 : Int32)] [] jc jw hA ho (by decide) rfl (c_X10_fails hY ho (M := M) exx8.symm) sd_X10_130 rfl hl.1 (j_hR hRf hRl rfl rfl) (Nat.le_of_ble_eq_true rfl) dX10_hunk_62 (fun H locs jw => ?_)
        exact kr _ _ _ _ _ _ (congrArg Prod.fst (Option.some.inj (j_ret eG0 hE))) (congrArg Prod.snd (Option.some.inj (j_ret eG0 hE))) jw dX10_hunk_65
      · rw [if_neg c7] at hE
        refine lv_aload_n hx hb dX10_hunk_42 rfl (lv_at hl 0 rfl) ?_
        refine lv_aload_n hx hb dX10_hunk_43 rfl (lv_at hl 0 rfl) ?_
        refine jg_10_52 jc jw ho wd_6_111 dX10_hunk_44 ?_
        have k9 := j_sub hY ho 52 (f := 100) rfl (by decide) (by decide) (by decide)
        refine lv_bipush (v := 6) hx hb dX10_hunk_47 (by decide) ?_
        refine lv_iload_n hx hb dX10_hunk_49 rfl (lv_at hl 1 rfl) ?_
        refine lv_imul hx hb dX10_hunk_50 ?_
        refine lv_iload_n hx hb dX10_hunk_51 rfl (lv_at hl 2 rfl) ?_
        refine lv_iadd hx hb dX10_hunk_52 ?_
        rcases Classical.em (j_g (((6 : Int32) * p1) + p2) (j_ln Y (j_rf Y o 52))) with g10 | g10
        case inr => rw [if_neg g10] at hE; exact absurd hE (hG0 _)
        rw [if_pos g10] at hE
        refine jr_iald jc jw k9 (j_g_in g10) dX10_hunk_53 ?_
        obtain ⟨xx11, exx11, hE⟩ := j_lv hE
        try dsimp only at hE
        refine jc_vi [.int (M (j_rf Y o 52) (((6 : Int32) * p1) + p2).toNatClampNeg)] [] jc jw hA ho (by decide) rfl (c_X10_done hY ho (M := M) exx11.symm) sd_X10_138 rfl hl.1 (j_hR hRf hRl rfl rfl) (Nat.le_of_ble_eq_true rfl) dX10_hunk_54 (fun H locs jw => ?_)
        refine lv_goto (tgt := 65) hx hb dX10_hunk_57 (by decide) ?_
        exact kr _ _ _ _ _ _ (congrArg Prod.fst (Option.some.inj (j_ret eG0 hE))) (congrArg Prod.snd (Option.some.inj (j_ret eG0 hE))) jw dX10_hunk_65
    · rw [if_pos c4] at hE
      refine lv_aload_n hx hb dX10_hunk_27 rfl (lv_at hl 0 rfl) ?_
      refine lv_iconst (v := 2) hx hb dX10_hunk_28 (by decide) ?_
      obtain ⟨xx5, exx5, hE⟩ := j_lv hE
      try dsimp only at hE
      refine jc_vi [.int (2 : Int32)] [] jc jw hA ho (by decide) rfl (c_X10_fails hY ho (M := M) exx5.symm) sd_X10_130 rfl hl.1 (j_hR hRf hRl rfl rfl) (Nat.le_of_ble_eq_true rfl) dX10_hunk_29 (fun H locs jw => ?_)
      exact kr _ _ _ _ _ _ (congrArg Prod.fst (Option.some.inj (j_ret eG0 hE))) (congrArg Prod.snd (Option.some.inj (j_ret eG0 hE))) jw dX10_hunk_32
  · rw [if_pos c1] at hE
    refine lv_aload_n hx hb dX10_hunk_7 rfl (lv_at hl 0 rfl) ?_
    refine lv_iconst (v := 1) hx hb dX10_hunk_8 (by decide) ?_
    obtain ⟨xx2, exx2, hE⟩ := j_lv hE
    try dsimp only at hE
    refine jc_vi [.int (1 : Int32)] [] jc jw hA ho (by decide) rfl (c_X10_fails hY ho (M := M) exx2.symm) sd_X10_130 rfl hl.1 (j_hR hRf hRl rfl rfl) (Nat.le_of_ble_eq_true rfl) dX10_hunk_9 (fun H locs jw => ?_)
    exact kr _ _ _ _ _ _ (congrArg Prod.fst (Option.some.inj (j_ret eG0 hE))) (congrArg Prod.snd (Option.some.inj (j_ret eG0 hE))) jw dX10_hunk_12
def lp_X10_fits_1 (Y : JY) (p5 : Int32) (p1 : Int32) (p2 : Int32) (o : Nat) (p4 : Int32) (q3 : Nat) (M : JM) (n : Nat) (vv8 : Int32) (vv9 : Int32) : Option (Int32) := match n with
  | 0 => none
  | n + 1 => if p5 ≤ vv9 ∨ vv8 = 0 then (if vv8 = 0 ∨ vv8 = 1 then (some vv8) else none) else (if j_g ((((24 : Int32) * p1) + p2) + vv9) (j_ln Y (j_rf Y o 1)) then (if j_g (p4 + vv9) (j_ln Y q3) then (lt_ (if (M (j_rf Y o 1) ((((24 : Int32) * p1) + p2) + vv9).toNatClampNeg) = (M q3 (p4 + vv9).toNatClampNeg) then ((1 : Int32)) else ((0 : Int32))) fun xx20 => lt_ (vv9 + (1 : Int32)) fun vv19 => lp_X10_fits_1 Y p5 p1 p2 o p4 q3 M n xx20 vv19) else none) else none)
def s_X10_fits (Y : JY) (M : JM) (o : Nat) (p1 : Int32) (p2 : Int32) (q3 : Nat) (p4 : Int32) (p5 : Int32) : Option (Int32) := (if p2 < (M o 58) then (some (0 : Int32)) else (if j_g p1 (j_ln Y (j_rf Y o 2)) then (if (M (j_rf Y o 2) p1.toNatClampNeg) < (p2 + p5) then (some (0 : Int32)) else (some (1 : Int32))) else none)).bind fun xx23 => (lp_X10_fits_1 Y p5 p1 p2 o p4 q3 M j_fuel xx23 (0 : Int32)).bind fun xx22 => some xx22
set_option maxRecDepth 100000 in
set_option maxHeartbeats 4000000 in
theorem c_X10_fits {D : va_G} {Y : JY} {ty : Nat → ClassId} {ad : Nat → Nat} {sz : Nat} {l : Launch} {M : JM} (hY : j_ok Y) {o : Nat} {p1 : Int32} {p2 : Int32} {q3 : Nat} {p4 : Int32} {p5 : Int32} (ho : j_kd Y o = 10) (hq3 : j_kd Y q3 = 100) {r : Int32} (hE : s_X10_fits Y M o p1 p2 q3 p4 p5 = some r) : JMz D Y ty ad sz l yX10_fits cX10_fits 8 0 0 [.ref (ad o), .int p1, .int p2, .ref (ad q3), .int p4, .int p5] M r M := by
  refine j_ofZ hY (by decide +kernel) (Nat.le_of_ble_eq_true rfl) (fun p e s m below meth c args R Q A hRf hRl hA jc jw kr ls hl => ?_)
  have hx := jc.1
  have hb := jc.2.1
  have hl : lv_has ls 8 [(0, .ref (ad o)), (1, .int p1), (2, .int p2), (3, .ref (ad q3)), (4, .int p4), (5, .int p5)] := hl
  unfold s_X10_fits at hE
  obtain ⟨G0, eG0, hG0, hE⟩ := j_F0o hE
  refine lv_iload_n hx hb dX10_fits_0 rfl (lv_at hl 2 rfl) ?_
  refine lv_aload_n hx hb dX10_fits_1 rfl (lv_at hl 0 rfl) ?_
  refine jg_10_58 jc jw ho wd_6_117 dX10_fits_2 ?_
  obtain ⟨G2, eG2, hG2, hE⟩ := j_ctxB hG0 hE
  have J2 : ∀ (vv6 : Int32)  (H : Heap) (locs : List Loc) (ls : Array Slot), G2 (some vv6) = some r → JW D Y ty ad A s.heap M H locs → lv_has ls 8 [(0, .ref (ad o)), (1, .int p1), (2, .int p2), (3, .ref (ad q3)), (4, .int p4), (5, .int p5)] → W p l e R s m args below meth c H locs 0 0 Q (F0 m 26 ls [.int vv6]) := by
    intro vv6  H locs ls hE jw hl
    replace hE := j_popB eG2 hE
    try dsimp only at hE
    refine lv_istore (lv' := [(6, .int vv6), (0, .ref (ad o)), (1, .int p1), (2, .int p2), (3, .ref (ad q3)), (4, .int p4), (5, .int p5)]) hx hb dX10_fits_26 hl (by decide) rfl (fun ls hl => ?_)
    refine lv_iconst (v := 0) hx hb dX10_fits_28 (by decide) ?_
    refine lv_istore (lv' := [(7, .int (0 : Int32)), (6, .int vv6), (0, .ref (ad o)), (1, .int p1), (2, .int p2), (3, .ref (ad q3)), (4, .int p4), (5, .int p5)]) hx hb dX10_fits_29 hl (by decide) rfl (fun ls hl => ?_)
    obtain ⟨G7, eG7, hG7, hE⟩ := j_ctxB hG0 hE
    have LP7 : ∀ (n : Nat) (vv8 : Int32) (vv9 : Int32) (H : Heap) (locs : List Loc) (ls : Array Slot), G7 (lp_X10_fits_1 Y p5 p1 p2 o p4 q3 M n vv8 vv9) = some r → JW D Y ty ad A s.heap M H locs → lv_has ls 8 [(7, .int vv9), (6, .int vv8), (0, .ref (ad o)), (1, .int p1), (2, .int p2), (3, .ref (ad q3)), (4, .int p4), (5, .int p5)] → W p l e R s m args below meth c H locs 0 0 Q (F0 m 31 ls []) := by
      intro n
      induction n with
      | zero => intro vv8 vv9 H locs ls hE jw hl; exact absurd hE (hG7 _)
      | succ n ih =>
        intro vv8 vv9 H locs ls hE jw hl
        rw [lp_X10_fits_1] at hE
        refine lv_iload hx hb dX10_fits_31 (lv_at hl 0 rfl) ?_
        refine lv_iload hx hb dX10_fits_33 (lv_at hl 7 rfl) ?_
        have B21 : ∀ (H : Heap) (locs : List Loc), JW D Y ty ad A s.heap M H locs → (p5 ≤ vv9 ∨ vv8 = 0) → W p l e R s m args below meth c H locs 0 0 Q (F0 m 80 ls []) := by
          intro H locs jw hcc
          rw [if_pos hcc] at hE
          refine lv_iload hx hb dX10_fits_80 (lv_at hl 1 rfl) ?_
          rcases Classical.em (vv8 = 0 ∨ vv8 = 1) with g12 | g12
          case inr => rw [if_neg g12] at hE; exact absurd hE (hG7 _)
          rw [if_pos g12] at hE
          replace hE := j_popB eG7 hE
          try dsimp only at hE
          exact kr _ _ _ _ _ _ (Option.some.inj (j_ret eG0 hE)) rfl g12 jw dX10_fits_82
        refine lv_icmp_ge (tgt := 80) hx hb dX10_fits_35 (by decide) (fun c10 => B21 _ _ jw (Or.inl c10)) (fun c10 => ?_)
        refine lv_iload hx hb dX10_fits_38 (lv_at hl 1 rfl) ?_
        refine lv_if_eq (tgt := 80) hx hb dX10_fits_40 (by decide) (fun c11 => B21 _ _ jw (Or.inr c11)) (fun c11 => ?_)
        rw [if_neg (fun hq => hq.elim (fun hq => (j_abs c10 hq)) (fun hq => (j_abs c11 hq)))] at hE
        refine lv_aload_n hx hb dX10_fits_43 rfl (lv_at hl 2 rfl) ?_
        refine jg_10_1 jc jw ho wd_6_60 dX10_fits_44 ?_
        have k13 := j_sub hY ho 1 (f := 100) rfl (by decide) (by decide) (by decide)
        refine lv_bipush (v := 24) hx hb dX10_fits_47 (by decide) ?_
        refine lv_iload_n hx hb dX10_fits_49 rfl (lv_at hl 3 rfl) ?_
        refine lv_imul hx hb dX10_fits_50 ?_
        refine lv_iload_n hx hb dX10_fits_51 rfl (lv_at hl 4 rfl) ?_
        refine lv_iadd hx hb dX10_fits_52 ?_
        refine lv_iload hx hb dX10_fits_53 (lv_at hl 0 rfl) ?_
        refine lv_iadd hx hb dX10_fits_55 ?_
        rcases Classical.em (j_g ((((24 : Int32) * p1) + p2) + vv9) (j_ln Y (j_rf Y o 1))) with g14 | g14
        case inr => rw [if_neg g14] at hE; exact absurd hE (hG7 _)
        rw [if_pos g14] at hE
        refine jr_iald jc jw k13 (j_g_in g14) dX10_fits_56 ?_
        refine lv_aload_n hx hb dX10_fits_57 rfl (lv_at hl 5 rfl) ?_
        refine lv_iload hx hb dX10_fits_58 (lv_at hl 6 rfl) ?_
        refine lv_iload hx hb dX10_fits_60 (lv_at hl 0 rfl) ?_
        refine lv_iadd hx hb dX10_fits_62 ?_
        rcases Classical.em (j_g (p4 + vv9) (j_ln Y q3)) with g15 | g15
        case inr => rw [if_neg g15] at hE; exact absurd hE (hG7 _)
        rw [if_pos g15] at hE
        refine jr_iald jc jw hq3 (j_g_in g15) dX10_fits_63 ?_
        obtain ⟨G17, eG17, hE⟩ := j_ctxL hE
        have J17 : ∀ (vv18 : Int32)  (H : Heap) (locs : List Loc) (ls : Array Slot), G17 (vv18) = some r → JW D Y ty ad A s.heap M H locs → lv_has ls 8 [(7, .int vv9), (0, .ref (ad o)), (1, .int p1), (2, .int p2), (3, .ref (ad q3)), (4, .int p4), (5, .int p5)] → W p l e R s m args below meth c H locs 0 0 Q (F0 m 72 ls [.int vv18]) := by
          intro vv18  H locs ls hE jw hl
          replace hE := j_popL eG17 hE
          try dsimp only at hE
          refine lv_istore (lv' := [(6, .int vv18), (7, .int vv9), (0, .ref (ad o)), (1, .int p1), (2, .int p2), (3, .ref (ad q3)), (4, .int p4), (5, .int p5)]) hx hb dX10_fits_72 hl (by decide) rfl (fun ls hl => ?_)
          obtain ⟨vv19, evv19, hE⟩ := j_lv hE
          try dsimp only at hE
          refine lv_iinc (v := vv19) (lv' := [(7, .int vv19), (6, .int vv18), (0, .ref (ad o)), (1, .int p1), (2, .int p2), (3, .ref (ad q3)), (4, .int p4), (5, .int p5)]) hx hb dX10_fits_74 hl (k := 1) rfl (by rw [evv19]; rfl) (by decide) rfl (fun ls hl => ?_)
          refine lv_goto (tgt := 31) hx hb dX10_fits_77 (by decide) ?_
          exact ih vv18 vv19 H locs ls hE jw (lv_sub hl [0, 1, 2, 3, 4, 5, 6, 7] rfl)
        refine lv_icmp_ne (tgt := 71) hx hb dX10_fits_64 (by decide) (fun c16 => ?_) (fun c16 => ?_)
        · rw [if_neg c16] at hE
          refine lv_iconst (v := 0) hx hb dX10_fits_71 (by decide) ?_
          exact J17 (0 : Int32)  H locs ls hE jw (lv_sub hl [0, 2, 3, 4, 5, 6, 7] rfl)
        · rw [if_pos c16] at hE
          refine lv_iconst (v := 1) hx hb dX10_fits_67 (by decide) ?_
          refine lv_goto (tgt := 72) hx hb dX10_fits_68 (by decide) ?_
          exact J17 (1 : Int32)  H locs ls hE jw (lv_sub hl [0, 2, 3, 4, 5, 6, 7] rfl)
    exact LP7 j_fuel vv6 (0 : Int32) H locs ls hE jw (lv_sub hl [0, 1, 2, 3, 4, 5, 6, 7] rfl)
  refine lv_icmp_lt (tgt := 25) hx hb dX10_fits_5 (by decide) (fun c1 => ?_) (fun c1 => ?_)
  · rw [if_pos c1] at hE
    refine lv_iconst (v := 0) hx hb dX10_fits_25 (by decide) ?_
    exact J2 (0 : Int32)  s.heap [] ls hE jw (lv_sub hl [0, 1, 2, 3, 4, 5] rfl)
  · rw [if_neg c1] at hE
    refine lv_iload_n hx hb dX10_fits_8 rfl (lv_at hl 2 rfl) ?_
    refine lv_iload hx hb dX10_fits_9 (lv_at hl 5 rfl) ?_
    refine lv_iadd hx hb dX10_fits_11 ?_
    refine lv_aload_n hx hb dX10_fits_12 rfl (lv_at hl 0 rfl) ?_
    refine jg_10_2 jc jw ho wd_6_61 dX10_fits_13 ?_
    have k3 := j_sub hY ho 2 (f := 100) rfl (by decide) (by decide) (by decide)
    refine lv_iload_n hx hb dX10_fits_16 rfl (lv_at hl 1 rfl) ?_
    rcases Classical.em (j_g p1 (j_ln Y (j_rf Y o 2))) with g4 | g4
    case inr => rw [if_neg g4] at hE; exact absurd hE (hG2 _)
    rw [if_pos g4] at hE
    refine jr_iald jc jw k3 (j_g_in g4) dX10_fits_17 ?_
    refine lv_icmp_gt (tgt := 25) hx hb dX10_fits_18 (by decide) (fun c5 => ?_) (fun c5 => ?_)
    · rw [if_pos c5] at hE
      refine lv_iconst (v := 0) hx hb dX10_fits_25 (by decide) ?_
      exact J2 (0 : Int32)  s.heap [] ls hE jw (lv_sub hl [0, 1, 2, 3, 4, 5] rfl)
    · rw [if_neg c5] at hE
      refine lv_iconst (v := 1) hx hb dX10_fits_21 (by decide) ?_
      refine lv_goto (tgt := 26) hx hb dX10_fits_22 (by decide) ?_
      exact J2 (1 : Int32)  s.heap [] ls hE jw (lv_sub hl [0, 1, 2, 3, 4, 5] rfl)
def lp_X10_goesOutDocument_1 (Y : JY) (p3 : Int32) (p1 : Int32) (o : Nat) (n : Nat) (vv2 : Int32) (mm3 : JM) : Option (JM) := match n with
  | 0 => none
  | n + 1 => if p3 ≤ vv2 then (some mm3) else (if j_g (((24 : Int32) * p1) + vv2) (j_ln Y (j_rf Y o 1)) then (if j_g (mm3 o 18) (j_ln Y (j_rf Y o 15)) then (lt_ (j_up mm3 (j_rf Y o 15) (mm3 o 18).toNatClampNeg (mm3 (j_rf Y o 1) (((24 : Int32) * p1) + vv2).toNatClampNeg)) fun mm9 => lt_ (j_up mm9 o 18 ((mm9 o 18) + (1 : Int32))) fun mm10 => lt_ (vv2 + (1 : Int32)) fun vv11 => lp_X10_goesOutDocument_1 Y p3 p1 o n vv11 mm10) else none) else none)
def s_X10_goesOutDocument (Y : JY) (M : JM) (o : Nat) (p1 : Int32) (p2 : Int32) (p3 : Int32) : Option (JM) := (lp_X10_goesOutDocument_1 Y p3 p1 o j_fuel p2 M).bind fun xx12 => some xx12
set_option maxRecDepth 100000 in
set_option maxHeartbeats 4000000 in
theorem c_X10_goesOutDocument {D : va_G} {Y : JY} {ty : Nat → ClassId} {ad : Nat → Nat} {sz : Nat} {l : Launch} {M : JM} (hY : j_ok Y) {o : Nat} {p1 : Int32} {p2 : Int32} {p3 : Int32} (ho : j_kd Y o = 10) {r : JM} (hE : s_X10_goesOutDocument Y M o p1 p2 p3 = some r) : JMv D Y ty ad sz l yX10_goesOutDocument cX10_goesOutDocument 5 0 0 [.ref (ad o), .int p1, .int p2, .int p3] M r := by
  refine j_ofV hY (by decide +kernel) (Nat.le_of_ble_eq_true rfl) (fun p e s m below meth c args R Q A hRf hRl hA jc jw kr ls hl => ?_)
  have hx := jc.1
  have hb := jc.2.1
  have hl : lv_has ls 5 [(0, .ref (ad o)), (1, .int p1), (2, .int p2), (3, .int p3)] := hl
  unfold s_X10_goesOutDocument at hE
  obtain ⟨G0, eG0, hG0, hE⟩ := j_F0o hE
  refine lv_iload_n hx hb dX10_goesOutDocument_0 rfl (lv_at hl 2 rfl) ?_
  refine lv_istore (lv' := [(4, .int p2), (0, .ref (ad o)), (1, .int p1), (2, .int p2), (3, .int p3)]) hx hb dX10_goesOutDocument_1 hl (by decide) rfl (fun ls hl => ?_)
  obtain ⟨G1, eG1, hG1, hE⟩ := j_ctxB hG0 hE
  have LP1 : ∀ (n : Nat) (vv2 : Int32) (mm3 : JM) (H : Heap) (locs : List Loc) (ls : Array Slot), G1 (lp_X10_goesOutDocument_1 Y p3 p1 o n vv2 mm3) = some r → JW D Y ty ad A s.heap mm3 H locs → lv_has ls 5 [(4, .int vv2), (0, .ref (ad o)), (1, .int p1), (3, .int p3)] → W p l e R s m args below meth c H locs 0 0 Q (F0 m 3 ls []) := by
    intro n
    induction n with
    | zero => intro vv2 mm3 H locs ls hE jw hl; exact absurd hE (hG1 _)
    | succ n ih =>
      intro vv2 mm3 H locs ls hE jw hl
      rw [lp_X10_goesOutDocument_1] at hE
      refine lv_iload hx hb dX10_goesOutDocument_3 (lv_at hl 0 rfl) ?_
      refine lv_iload_n hx hb dX10_goesOutDocument_5 rfl (lv_at hl 3 rfl) ?_
      refine lv_icmp_ge (tgt := 46) hx hb dX10_goesOutDocument_6 (by decide) (fun c4 => ?_) (fun c4 => ?_)
      · rw [if_pos c4] at hE
        replace hE := j_popB eG1 hE
        try dsimp only at hE
        exact kr _ _ _ _ _ (Option.some.inj (j_ret eG0 hE)) jw dX10_goesOutDocument_46
      · rw [if_neg c4] at hE
        refine lv_aload_n hx hb dX10_goesOutDocument_9 rfl (lv_at hl 1 rfl) ?_
        refine jg_10_15 jc jw ho wd_6_74 dX10_goesOutDocument_10 ?_
        have k5 := j_sub hY ho 15 (f := 100) rfl (by decide) (by decide) (by decide)
        refine lv_aload_n hx hb dX10_goesOutDocument_13 rfl (lv_at hl 1 rfl) ?_
        refine jg_10_18 jc jw ho wd_6_77 dX10_goesOutDocument_14 ?_
        refine lv_aload_n hx hb dX10_goesOutDocument_17 rfl (lv_at hl 1 rfl) ?_
        refine jg_10_1 jc jw ho wd_6_60 dX10_goesOutDocument_18 ?_
        have k6 := j_sub hY ho 1 (f := 100) rfl (by decide) (by decide) (by decide)
        refine lv_bipush (v := 24) hx hb dX10_goesOutDocument_21 (by decide) ?_
        refine lv_iload_n hx hb dX10_goesOutDocument_23 rfl (lv_at hl 2 rfl) ?_
        refine lv_imul hx hb dX10_goesOutDocument_24 ?_
        refine lv_iload hx hb dX10_goesOutDocument_25 (lv_at hl 0 rfl) ?_
        refine lv_iadd hx hb dX10_goesOutDocument_27 ?_
        rcases Classical.em (j_g (((24 : Int32) * p1) + vv2) (j_ln Y (j_rf Y o 1))) with g7 | g7
        case inr => rw [if_neg g7] at hE; exact absurd hE (hG1 _)
        rw [if_pos g7] at hE
        refine jr_iald jc jw k6 (j_g_in g7) dX10_goesOutDocument_28 ?_
        rcases Classical.em (j_g (mm3 o 18) (j_ln Y (j_rf Y o 15))) with g8 | g8
        case inr => rw [if_neg g8] at hE; exact absurd hE (hG1 _)
        rw [if_pos g8] at hE
        refine jr_iast jc jw k5 (j_g_in g8) dX10_goesOutDocument_29 (fun H locs jw => ?_)
        obtain ⟨mm9, emm9, hE⟩ := j_lv hE
        rw [← emm9] at jw
        try dsimp only at hE
        refine lv_aload_n hx hb dX10_goesOutDocument_30 rfl (lv_at hl 1 rfl) ?_
        refine lv_dup hx hb dX10_goesOutDocument_31 rfl ?_
        refine jg_10_18 jc jw ho wd_6_77 dX10_goesOutDocument_32 ?_
        refine lv_iconst (v := 1) hx hb dX10_goesOutDocument_35 (by decide) ?_
        refine lv_iadd hx hb dX10_goesOutDocument_36 ?_
        refine js_10_18 jc jw ho wd_6_77 dX10_goesOutDocument_37 (fun H locs jw => ?_)
        obtain ⟨mm10, emm10, hE⟩ := j_lv hE
        rw [← emm10] at jw
        try dsimp only at hE
        obtain ⟨vv11, evv11, hE⟩ := j_lv hE
        try dsimp only at hE
        refine lv_iinc (v := vv11) (lv' := [(4, .int vv11), (0, .ref (ad o)), (1, .int p1), (3, .int p3)]) hx hb dX10_goesOutDocument_40 hl (k := 0) rfl (by rw [evv11]; rfl) (by decide) rfl (fun ls hl => ?_)
        refine lv_goto (tgt := 3) hx hb dX10_goesOutDocument_43 (by decide) ?_
        exact ih vv11 mm10 H locs ls hE jw (lv_sub hl [0, 1, 2, 3] rfl)
  exact LP1 j_fuel p2 M s.heap [] ls hE jw (lv_sub hl [0, 1, 2, 4] rfl)
def lp_X10_applies_1 (Y : JY) (M : JM) (vv23 : Int32) (o : Nat) (p1 : Int32) (oo11 : Nat) (vv28 : Int32) (n : Nat) (vv40 : Int32) : Option ((Int32) ⊕ (Int32 × JM)) := match n with
  | 0 => none
  | n + 1 => if (20 : Int32) < vv40 then (some (Sum.inr ((0 : Int32), M))) else (lt_ (if (vv40 - vv40 / (2 : Int32) * (2 : Int32)) = (1 : Int32) then (((vv40 + (1 : Int32)) / (2 : Int32))) else (((-vv40) / (2 : Int32)))) fun xx50 => lt_ ((vv23 + (M o 59)) + xx50) fun vv45 => (s_X10_fits Y M o p1 vv45 oo11 vv23 vv28).bind fun xx46 => if xx46 = 0 then (lt_ (vv40 + (1 : Int32)) fun vv49 => lp_X10_applies_1 Y M vv23 o p1 oo11 vv28 n vv49) else (some (Sum.inl vv45)))
def s_X10_applies (Y : JY) (M : JM) (o : Nat) (p1 : Int32) (p2 : Int32) (p3 : Int32) (p4 : Int32) : Option (Int32 × JM) := lt_ ((6 : Int32) * p2) fun vv1 => if j_g (vv1 + (4 : Int32)) (j_ln Y (j_rf Y o 52)) then (lt_ (s_X10_least Y M p3 (M (j_rf Y o 52) (vv1 + (4 : Int32)).toNatClampNeg)) fun vv4 => if j_g (vv1 + (5 : Int32)) (j_ln Y (j_rf Y o 52)) then (lt_ (s_X10_least Y M p3 (M (j_rf Y o 52) (vv1 + (5 : Int32)).toNatClampNeg)) fun vv6 => lt_ (if p4 = 0 then ((j_rf Y o 54)) else ((j_rf Y o 55))) fun xx67 => lt_ (if p4 = 0 then ((j_rf Y o 55)) else ((j_rf Y o 54))) fun xx66 => lt_ (if p4 = 0 then (vv1) else ((vv1 + (2 : Int32)))) fun xx65 => if j_g xx65 (j_ln Y (j_rf Y o 52)) then (lt_ ((M (j_rf Y o 52) xx65.toNatClampNeg) + vv4) fun vv23 => lt_ (if p4 = 0 then ((vv1 + (1 : Int32))) else ((vv1 + (3 : Int32)))) fun xx64 => if j_g xx64 (j_ln Y (j_rf Y o 52)) then (lt_ (((M (j_rf Y o 52) xx64.toNatClampNeg) - vv4) - vv6) fun vv28 => lt_ (if p4 = 0 then ((vv1 + (2 : Int32))) else (vv1)) fun xx63 => if j_g xx63 (j_ln Y (j_rf Y o 52)) then (lt_ ((M (j_rf Y o 52) xx63.toNatClampNeg) + vv4) fun vv33 => lt_ (if p4 = 0 then ((vv1 + (3 : Int32))) else ((vv1 + (1 : Int32)))) fun xx62 => if j_g xx62 (j_ln Y (j_rf Y o 52)) then (lt_ (((M (j_rf Y o 52) xx62.toNatClampNeg) - vv4) - vv6) fun vv38 => (lp_X10_applies_1 Y M vv23 o p1 xx67 vv28 j_fuel (0 : Int32)).bind fun xx61 => match xx61 with | Sum.inl xx61a => ((s_X10_goesOutDocument Y M o p1 (M o 58) xx61a).bind fun xx52 => (s_X10_goesOut Y xx52 o xx66 vv33 (vv33 + vv38)).bind fun xx53 => lt_ (j_up xx53 o 58 (xx61a + vv28)) fun mm54 => lt_ (j_up mm54 o 59 (xx61a - vv23)) fun mm55 => if j_g ((2 : Int32) * p2) (j_ln Y (j_rf Y o 60)) then (lt_ (j_up mm55 (j_rf Y o 60) ((2 : Int32) * p2).toNatClampNeg xx61a) fun mm58 => if j_g (((2 : Int32) * p2) + (1 : Int32)) (j_ln Y (j_rf Y o 60)) then (lt_ (j_up mm58 (j_rf Y o 60) (((2 : Int32) * p2) + (1 : Int32)).toNatClampNeg p3) fun mm60 => some ((1 : Int32), mm60)) else none) else none) | Sum.inr xx61a => (some (xx61a.1, xx61a.2))) else none) else none) else none) else none) else none) else none
set_option maxRecDepth 100000 in
set_option maxHeartbeats 4000000 in
theorem c_X10_applies {D : va_G} {Y : JY} {ty : Nat → ClassId} {ad : Nat → Nat} {sz : Nat} {l : Launch} {M : JM} (hY : j_ok Y) {o : Nat} {p1 : Int32} {p2 : Int32} {p3 : Int32} {p4 : Int32} (ho : j_kd Y o = 10) {r : Int32 × JM} (hE : s_X10_applies Y M o p1 p2 p3 p4 = some r) : JMz D Y ty ad sz l yX10_applies cX10_applies 16 1 27 [.ref (ad o), .int p1, .int p2, .int p3, .int p4] M r.1 r.2 := by
  refine j_ofZ hY (by decide +kernel) (Nat.le_of_ble_eq_true rfl) (fun p e s m below meth c args R Q A hRf hRl hA jc jw kr ls hl => ?_)
  have hx := jc.1
  have hb := jc.2.1
  have hl : lv_has ls 16 [(0, .ref (ad o)), (1, .int p1), (2, .int p2), (3, .int p3), (4, .int p4)] := hl
  unfold s_X10_applies at hE
  obtain ⟨G0, eG0, hG0, hE⟩ := j_F0o hE
  refine lv_bipush (v := 6) hx hb dX10_applies_0 (by decide) ?_
  refine lv_iload_n hx hb dX10_applies_2 rfl (lv_at hl 2 rfl) ?_
  refine lv_imul hx hb dX10_applies_3 ?_
  refine lv_topi (fun vv1 evv1 => ?_)
  replace hE := j_lu hE evv1
  try dsimp only at hE
  refine lv_istore (lv' := [(5, .int vv1), (0, .ref (ad o)), (1, .int p1), (2, .int p2), (3, .int p3), (4, .int p4)]) hx hb dX10_applies_4 hl (by decide) rfl (fun ls hl => ?_)
  refine lv_iload_n hx hb dX10_applies_6 rfl (lv_at hl 4 rfl) ?_
  refine lv_aload_n hx hb dX10_applies_7 rfl (lv_at hl 1 rfl) ?_
  refine jg_10_52 jc jw ho wd_6_111 dX10_applies_8 ?_
  have k2 := j_sub hY ho 52 (f := 100) rfl (by decide) (by decide) (by decide)
  refine lv_iload hx hb dX10_applies_11 (lv_at hl 0 rfl) ?_
  refine lv_iconst (v := 4) hx hb dX10_applies_13 (by decide) ?_
  refine lv_iadd hx hb dX10_applies_14 ?_
  rcases Classical.em (j_g (vv1 + (4 : Int32)) (j_ln Y (j_rf Y o 52))) with g3 | g3
  case inr => rw [if_neg g3] at hE; exact absurd hE (hG0 _)
  rw [if_pos g3] at hE
  refine jr_iald jc jw k2 (j_g_in g3) dX10_applies_15 ?_
  refine jc_si [.int p3, .int (M (j_rf Y o 52) (vv1 + (4 : Int32)).toNatClampNeg)] [] jc jw hA (c_X10_least hY  (M := M) rfl) sd_X10_305 rfl hl.1 (j_hR hRf hRl rfl rfl) (Nat.le_of_ble_eq_true rfl) dX10_applies_16 (fun H locs jw => ?_)
  refine lv_topi (fun vv4 evv4 => ?_)
  replace hE := j_lu hE evv4
  try dsimp only at hE
  refine lv_istore (lv' := [(6, .int vv4), (5, .int vv1), (0, .ref (ad o)), (1, .int p1), (2, .int p2), (3, .int p3), (4, .int p4)]) hx hb dX10_applies_19 hl (by decide) rfl (fun ls hl => ?_)
  refine lv_iload_n hx hb dX10_applies_21 rfl (lv_at hl 5 rfl) ?_
  refine lv_aload_n hx hb dX10_applies_22 rfl (lv_at hl 2 rfl) ?_
  refine jg_10_52 jc jw ho wd_6_111 dX10_applies_23 ?_
  refine lv_iload hx hb dX10_applies_26 (lv_at hl 1 rfl) ?_
  refine lv_iconst (v := 5) hx hb dX10_applies_28 (by decide) ?_
  refine lv_iadd hx hb dX10_applies_29 ?_
  rcases Classical.em (j_g (vv1 + (5 : Int32)) (j_ln Y (j_rf Y o 52))) with g5 | g5
  case inr => rw [if_neg g5] at hE; exact absurd hE (hG0 _)
  rw [if_pos g5] at hE
  refine jr_iald jc jw k2 (j_g_in g5) dX10_applies_30 ?_
  refine jc_si [.int p3, .int (M (j_rf Y o 52) (vv1 + (5 : Int32)).toNatClampNeg)] [] jc jw hA (c_X10_least hY  (M := M) rfl) sd_X10_305 rfl hl.1 (j_hR hRf hRl rfl rfl) (Nat.le_of_ble_eq_true rfl) dX10_applies_31 (fun H locs jw => ?_)
  refine lv_topi (fun vv6 evv6 => ?_)
  replace hE := j_lu hE evv6
  try dsimp only at hE
  refine lv_istore (lv' := [(7, .int vv6), (6, .int vv4), (5, .int vv1), (0, .ref (ad o)), (1, .int p1), (2, .int p2), (3, .int p3), (4, .int p4)]) hx hb dX10_applies_34 hl (by decide) rfl (fun ls hl => ?_)
  refine lv_iload hx hb dX10_applies_36 (lv_at hl 7 rfl) ?_
  obtain ⟨G8, eG8, hE⟩ := j_ctxL hE
  have J8 : ∀ (oo11 : Nat) (k12 : j_kd Y oo11 = 100) (H : Heap) (locs : List Loc) (ls : Array Slot), G8 (oo11) = some r → JW D Y ty ad A s.heap M H locs → lv_has ls 16 [(7, .int vv6), (6, .int vv4), (5, .int vv1), (0, .ref (ad o)), (1, .int p1), (2, .int p2), (3, .int p3), (4, .int p4)] → W p l e R s m args below meth c H locs 0 0 Q (F0 m 52 ls [.ref (ad oo11)]) := by
    intro oo11 k12 H locs ls hE jw hl
    replace hE := j_popL eG8 hE
    try dsimp only at hE
    refine lv_astore (lv' := [(8, .ref (ad oo11)), (7, .int vv6), (6, .int vv4), (5, .int vv1), (0, .ref (ad o)), (1, .int p1), (2, .int p2), (3, .int p3), (4, .int p4)]) hx hb dX10_applies_52 hl (by decide) rfl (fun ls hl => ?_)
    refine lv_iload hx hb dX10_applies_54 (lv_at hl 8 rfl) ?_
    obtain ⟨G14, eG14, hE⟩ := j_ctxL hE
    have J14 : ∀ (oo17 : Nat) (k18 : j_kd Y oo17 = 100) (H : Heap) (locs : List Loc) (ls : Array Slot), G14 (oo17) = some r → JW D Y ty ad A s.heap M H locs → lv_has ls 16 [(8, .ref (ad oo11)), (7, .int vv6), (6, .int vv4), (5, .int vv1), (0, .ref (ad o)), (1, .int p1), (2, .int p2), (3, .int p3), (4, .int p4)] → W p l e R s m args below meth c H locs 0 0 Q (F0 m 70 ls [.ref (ad oo17)]) := by
      intro oo17 k18 H locs ls hE jw hl
      replace hE := j_popL eG14 hE
      try dsimp only at hE
      refine lv_astore (lv' := [(9, .ref (ad oo17)), (8, .ref (ad oo11)), (7, .int vv6), (6, .int vv4), (5, .int vv1), (0, .ref (ad o)), (1, .int p1), (2, .int p2), (3, .int p3), (4, .int p4)]) hx hb dX10_applies_70 hl (by decide) rfl (fun ls hl => ?_)
      refine lv_aload_n hx hb dX10_applies_72 rfl (lv_at hl 5 rfl) ?_
      refine jg_10_52 jc jw ho wd_6_111 dX10_applies_73 ?_
      refine lv_iload hx hb dX10_applies_76 (lv_at hl 9 rfl) ?_
      obtain ⟨G20, eG20, hE⟩ := j_ctxL hE
      have J20 : ∀ (vv21 : Int32)  (H : Heap) (locs : List Loc) (ls : Array Slot), G20 (vv21) = some r → JW D Y ty ad A s.heap M H locs → lv_has ls 16 [(9, .ref (ad oo17)), (8, .ref (ad oo11)), (7, .int vv6), (6, .int vv4), (5, .int vv1), (0, .ref (ad o)), (1, .int p1), (2, .int p2), (3, .int p3), (4, .int p4)] → W p l e R s m args below meth c H locs 0 0 Q (F0 m 90 ls [.int vv21, .ref (ad (j_rf Y o 52))]) := by
        intro vv21  H locs ls hE jw hl
        replace hE := j_popL eG20 hE
        try dsimp only at hE
        rcases Classical.em (j_g vv21 (j_ln Y (j_rf Y o 52))) with g22 | g22
        case inr => rw [if_neg g22] at hE; exact absurd hE (hG0 _)
        rw [if_pos g22] at hE
        refine jr_iald jc jw k2 (j_g_in g22) dX10_applies_90 ?_
        refine lv_iload hx hb dX10_applies_91 (lv_at hl 3 rfl) ?_
        refine lv_iadd hx hb dX10_applies_93 ?_
        refine lv_topi (fun vv23 evv23 => ?_)
        replace hE := j_lu hE evv23
        try dsimp only at hE
        refine lv_istore (lv' := [(10, .int vv23), (9, .ref (ad oo17)), (8, .ref (ad oo11)), (7, .int vv6), (6, .int vv4), (5, .int vv1), (0, .ref (ad o)), (1, .int p1), (2, .int p2), (3, .int p3), (4, .int p4)]) hx hb dX10_applies_94 hl (by decide) rfl (fun ls hl => ?_)
        refine lv_aload_n hx hb dX10_applies_96 rfl (lv_at hl 6 rfl) ?_
        refine jg_10_52 jc jw ho wd_6_111 dX10_applies_97 ?_
        refine lv_iload hx hb dX10_applies_100 (lv_at hl 10 rfl) ?_
        obtain ⟨G25, eG25, hE⟩ := j_ctxL hE
        have J25 : ∀ (vv26 : Int32)  (H : Heap) (locs : List Loc) (ls : Array Slot), G25 (vv26) = some r → JW D Y ty ad A s.heap M H locs → lv_has ls 16 [(10, .int vv23), (9, .ref (ad oo17)), (8, .ref (ad oo11)), (7, .int vv6), (6, .int vv4), (5, .int vv1), (0, .ref (ad o)), (1, .int p1), (2, .int p2), (3, .int p3), (4, .int p4)] → W p l e R s m args below meth c H locs 0 0 Q (F0 m 116 ls [.int vv26, .ref (ad (j_rf Y o 52))]) := by
          intro vv26  H locs ls hE jw hl
          replace hE := j_popL eG25 hE
          try dsimp only at hE
          rcases Classical.em (j_g vv26 (j_ln Y (j_rf Y o 52))) with g27 | g27
          case inr => rw [if_neg g27] at hE; exact absurd hE (hG0 _)
          rw [if_pos g27] at hE
          refine jr_iald jc jw k2 (j_g_in g27) dX10_applies_116 ?_
          refine lv_iload hx hb dX10_applies_117 (lv_at hl 4 rfl) ?_
          refine lv_isub hx hb dX10_applies_119 ?_
          refine lv_iload hx hb dX10_applies_120 (lv_at hl 3 rfl) ?_
          refine lv_isub hx hb dX10_applies_122 ?_
          refine lv_topi (fun vv28 evv28 => ?_)
          replace hE := j_lu hE evv28
          try dsimp only at hE
          refine lv_istore (lv' := [(11, .int vv28), (10, .int vv23), (9, .ref (ad oo17)), (8, .ref (ad oo11)), (7, .int vv6), (6, .int vv4), (5, .int vv1), (0, .ref (ad o)), (1, .int p1), (2, .int p2), (3, .int p3), (4, .int p4)]) hx hb dX10_applies_123 hl (by decide) rfl (fun ls hl => ?_)
          refine lv_aload_n hx hb dX10_applies_125 rfl (lv_at hl 7 rfl) ?_
          refine jg_10_52 jc jw ho wd_6_111 dX10_applies_126 ?_
          refine lv_iload hx hb dX10_applies_129 (lv_at hl 11 rfl) ?_
          obtain ⟨G30, eG30, hE⟩ := j_ctxL hE
          have J30 : ∀ (vv31 : Int32)  (H : Heap) (locs : List Loc) (ls : Array Slot), G30 (vv31) = some r → JW D Y ty ad A s.heap M H locs → lv_has ls 16 [(11, .int vv28), (10, .int vv23), (9, .ref (ad oo17)), (8, .ref (ad oo11)), (7, .int vv6), (6, .int vv4), (5, .int vv1), (0, .ref (ad o)), (1, .int p1), (2, .int p2), (3, .int p3), (4, .int p4)] → W p l e R s m args below meth c H locs 0 0 Q (F0 m 143 ls [.int vv31, .ref (ad (j_rf Y o 52))]) := by
            intro vv31  H locs ls hE jw hl
            replace hE := j_popL eG30 hE
            try dsimp only at hE
            rcases Classical.em (j_g vv31 (j_ln Y (j_rf Y o 52))) with g32 | g32
            case inr => rw [if_neg g32] at hE; exact absurd hE (hG0 _)
            rw [if_pos g32] at hE
            refine jr_iald jc jw k2 (j_g_in g32) dX10_applies_143 ?_
            refine lv_iload hx hb dX10_applies_144 (lv_at hl 5 rfl) ?_
            refine lv_iadd hx hb dX10_applies_146 ?_
            refine lv_topi (fun vv33 evv33 => ?_)
            replace hE := j_lu hE evv33
            try dsimp only at hE
            refine lv_istore (lv' := [(12, .int vv33), (11, .int vv28), (10, .int vv23), (9, .ref (ad oo17)), (8, .ref (ad oo11)), (7, .int vv6), (6, .int vv4), (5, .int vv1), (0, .ref (ad o)), (1, .int p1), (2, .int p2), (3, .int p3), (4, .int p4)]) hx hb dX10_applies_147 hl (by decide) rfl (fun ls hl => ?_)
            refine lv_aload_n hx hb dX10_applies_149 rfl (lv_at hl 8 rfl) ?_
            refine jg_10_52 jc jw ho wd_6_111 dX10_applies_150 ?_
            refine lv_iload hx hb dX10_applies_153 (lv_at hl 12 rfl) ?_
            obtain ⟨G35, eG35, hE⟩ := j_ctxL hE
            have J35 : ∀ (vv36 : Int32)  (H : Heap) (locs : List Loc) (ls : Array Slot), G35 (vv36) = some r → JW D Y ty ad A s.heap M H locs → lv_has ls 16 [(12, .int vv33), (11, .int vv28), (10, .int vv23), (9, .ref (ad oo17)), (8, .ref (ad oo11)), (7, .int vv6), (6, .int vv4), (0, .ref (ad o)), (1, .int p1), (2, .int p2), (3, .int p3)] → W p l e R s m args below meth c H locs 0 0 Q (F0 m 169 ls [.int vv36, .ref (ad (j_rf Y o 52))]) := by
              intro vv36  H locs ls hE jw hl
              replace hE := j_popL eG35 hE
              try dsimp only at hE
              rcases Classical.em (j_g vv36 (j_ln Y (j_rf Y o 52))) with g37 | g37
              case inr => rw [if_neg g37] at hE; exact absurd hE (hG0 _)
              rw [if_pos g37] at hE
              refine jr_iald jc jw k2 (j_g_in g37) dX10_applies_169 ?_
              refine lv_iload hx hb dX10_applies_170 (lv_at hl 6 rfl) ?_
              refine lv_isub hx hb dX10_applies_172 ?_
              refine lv_iload hx hb dX10_applies_173 (lv_at hl 5 rfl) ?_
              refine lv_isub hx hb dX10_applies_175 ?_
              refine lv_topi (fun vv38 evv38 => ?_)
              replace hE := j_lu hE evv38
              try dsimp only at hE
              refine lv_istore (lv' := [(13, .int vv38), (12, .int vv33), (11, .int vv28), (10, .int vv23), (9, .ref (ad oo17)), (8, .ref (ad oo11)), (7, .int vv6), (6, .int vv4), (0, .ref (ad o)), (1, .int p1), (2, .int p2), (3, .int p3)]) hx hb dX10_applies_176 hl (by decide) rfl (fun ls hl => ?_)
              refine lv_iconst (v := 0) hx hb dX10_applies_178 (by decide) ?_
              refine lv_istore (lv' := [(14, .int (0 : Int32)), (13, .int vv38), (12, .int vv33), (11, .int vv28), (10, .int vv23), (9, .ref (ad oo17)), (8, .ref (ad oo11)), (7, .int vv6), (6, .int vv4), (0, .ref (ad o)), (1, .int p1), (2, .int p2), (3, .int p3)]) hx hb dX10_applies_179 hl (by decide) rfl (fun ls hl => ?_)
              obtain ⟨G39, eG39, hG39, hE⟩ := j_ctxB hG0 hE
              have E39_236 : ∀ (vv51 : Int32)  (H : Heap) (locs : List Loc) (ls : Array Slot), G39 (some (Sum.inl vv51)) = some r → JW D Y ty ad A s.heap M H locs → lv_has ls 16 [(13, .int vv38), (12, .int vv33), (11, .int vv28), (10, .int vv23), (9, .ref (ad oo17)), (0, .ref (ad o)), (1, .int p1), (2, .int p2), (3, .int p3), (15, .int vv51)] → W p l e R s m args below meth c H locs 0 0 Q (F0 m 236 ls []) := by
                intro vv51  H locs ls hE jw hl
                replace hE := j_popB eG39 hE
                try dsimp only at hE
                refine lv_aload_n hx hb dX10_applies_236 rfl (lv_at hl 5 rfl) ?_
                refine lv_iload_n hx hb dX10_applies_237 rfl (lv_at hl 6 rfl) ?_
                refine lv_aload_n hx hb dX10_applies_238 rfl (lv_at hl 5 rfl) ?_
                refine jg_10_58 jc jw ho wd_6_117 dX10_applies_239 ?_
                refine lv_iload hx hb dX10_applies_242 (lv_at hl 9 rfl) ?_
                obtain ⟨xx52, exx52, hE⟩ := j_bd hG0 hE
                try dsimp only at hE
                refine jc_vv [.int p1, .int (M o 58), .int vv51] [] jc jw hA ho (by decide) rfl (c_X10_goesOutDocument hY ho (M := M) exx52) sd_X10_318 rfl hl.1 (j_hR hRf hRl rfl rfl) (Nat.le_of_ble_eq_true rfl) dX10_applies_244 (fun H locs jw => ?_)
                refine lv_aload_n hx hb dX10_applies_247 rfl (lv_at hl 5 rfl) ?_
                refine lv_aload hx hb dX10_applies_248 (lv_at hl 4 rfl) ?_
                refine lv_iload hx hb dX10_applies_250 (lv_at hl 1 rfl) ?_
                refine lv_iload hx hb dX10_applies_252 (lv_at hl 1 rfl) ?_
                refine lv_iload hx hb dX10_applies_254 (lv_at hl 0 rfl) ?_
                refine lv_iadd hx hb dX10_applies_256 ?_
                obtain ⟨xx53, exx53, hE⟩ := j_bd hG0 hE
                try dsimp only at hE
                refine jc_vv [.ref (ad oo17), .int vv33, .int (vv33 + vv38)] [] jc jw hA ho (by decide) rfl (c_X10_goesOut hY ho k18 (M := xx52) exx53) sd_X10_282 rfl hl.1 (j_hR hRf hRl rfl rfl) (Nat.le_of_ble_eq_true rfl) dX10_applies_257 (fun H locs jw => ?_)
                refine lv_aload_n hx hb dX10_applies_260 rfl (lv_at hl 5 rfl) ?_
                refine lv_iload hx hb dX10_applies_261 (lv_at hl 9 rfl) ?_
                refine lv_iload hx hb dX10_applies_263 (lv_at hl 2 rfl) ?_
                refine lv_iadd hx hb dX10_applies_265 ?_
                refine js_10_58 jc jw ho wd_6_117 dX10_applies_266 (fun H locs jw => ?_)
                obtain ⟨mm54, emm54, hE⟩ := j_lv hE
                rw [← emm54] at jw
                try dsimp only at hE
                refine lv_aload_n hx hb dX10_applies_269 rfl (lv_at hl 5 rfl) ?_
                refine lv_iload hx hb dX10_applies_270 (lv_at hl 9 rfl) ?_
                refine lv_iload hx hb dX10_applies_272 (lv_at hl 3 rfl) ?_
                refine lv_isub hx hb dX10_applies_274 ?_
                refine js_10_59 jc jw ho wd_6_118 dX10_applies_275 (fun H locs jw => ?_)
                obtain ⟨mm55, emm55, hE⟩ := j_lv hE
                rw [← emm55] at jw
                try dsimp only at hE
                refine lv_aload_n hx hb dX10_applies_278 rfl (lv_at hl 5 rfl) ?_
                refine jg_10_60 jc jw ho wd_6_119 dX10_applies_279 ?_
                have k56 := j_sub hY ho 60 (f := 100) rfl (by decide) (by decide) (by decide)
                refine lv_iconst (v := 2) hx hb dX10_applies_282 (by decide) ?_
                refine lv_iload_n hx hb dX10_applies_283 rfl (lv_at hl 7 rfl) ?_
                refine lv_imul hx hb dX10_applies_284 ?_
                refine lv_iload hx hb dX10_applies_285 (lv_at hl 9 rfl) ?_
                rcases Classical.em (j_g ((2 : Int32) * p2) (j_ln Y (j_rf Y o 60))) with g57 | g57
                case inr => rw [if_neg g57] at hE; exact absurd hE (hG0 _)
                rw [if_pos g57] at hE
                refine jr_iast jc jw k56 (j_g_in g57) dX10_applies_287 (fun H locs jw => ?_)
                obtain ⟨mm58, emm58, hE⟩ := j_lv hE
                rw [← emm58] at jw
                try dsimp only at hE
                refine lv_aload_n hx hb dX10_applies_288 rfl (lv_at hl 5 rfl) ?_
                refine jg_10_60 jc jw ho wd_6_119 dX10_applies_289 ?_
                refine lv_iconst (v := 2) hx hb dX10_applies_292 (by decide) ?_
                refine lv_iload_n hx hb dX10_applies_293 rfl (lv_at hl 7 rfl) ?_
                refine lv_imul hx hb dX10_applies_294 ?_
                refine lv_iconst (v := 1) hx hb dX10_applies_295 (by decide) ?_
                refine lv_iadd hx hb dX10_applies_296 ?_
                refine lv_iload_n hx hb dX10_applies_297 rfl (lv_at hl 8 rfl) ?_
                rcases Classical.em (j_g (((2 : Int32) * p2) + (1 : Int32)) (j_ln Y (j_rf Y o 60))) with g59 | g59
                case inr => rw [if_neg g59] at hE; exact absurd hE (hG0 _)
                rw [if_pos g59] at hE
                refine jr_iast jc jw k56 (j_g_in g59) dX10_applies_298 (fun H locs jw => ?_)
                obtain ⟨mm60, emm60, hE⟩ := j_lv hE
                rw [← emm60] at jw
                try dsimp only at hE
                refine lv_iconst (v := 1) hx hb dX10_applies_299 (by decide) ?_
                exact kr _ _ _ _ _ _ (congrArg Prod.fst (Option.some.inj (j_ret eG0 hE))) (congrArg Prod.snd (Option.some.inj (j_ret eG0 hE))) (by decide) jw dX10_applies_300
              have LP39 : ∀ (n : Nat) (vv40 : Int32) (H : Heap) (locs : List Loc) (ls : Array Slot), G39 (lp_X10_applies_1 Y M vv23 o p1 oo11 vv28 n vv40) = some r → JW D Y ty ad A s.heap M H locs → lv_has ls 16 [(14, .int vv40), (13, .int vv38), (12, .int vv33), (11, .int vv28), (10, .int vv23), (9, .ref (ad oo17)), (8, .ref (ad oo11)), (0, .ref (ad o)), (1, .int p1), (2, .int p2), (3, .int p3)] → W p l e R s m args below meth c H locs 0 0 Q (F0 m 181 ls []) := by
                intro n
                induction n with
                | zero => intro vv40 H locs ls hE jw hl; exact absurd hE (hG39 _)
                | succ n ih =>
                  intro vv40 H locs ls hE jw hl
                  rw [lp_X10_applies_1] at hE
                  refine lv_iload hx hb dX10_applies_181 (lv_at hl 0 rfl) ?_
                  refine lv_bipush (v := 20) hx hb dX10_applies_183 (by decide) ?_
                  refine lv_icmp_gt (tgt := 307) hx hb dX10_applies_185 (by decide) (fun c41 => ?_) (fun c41 => ?_)
                  · rw [if_pos c41] at hE
                    refine lv_iconst (v := 0) hx hb dX10_applies_307 (by decide) ?_
                    replace hE := j_popB eG39 hE
                    try dsimp only at hE
                    exact kr _ _ _ _ _ _ (congrArg Prod.fst (Option.some.inj (j_ret eG0 hE))) (congrArg Prod.snd (Option.some.inj (j_ret eG0 hE))) (by decide) jw dX10_applies_308
                  · rw [if_neg c41] at hE
                    refine lv_iload hx hb dX10_applies_188 (lv_at hl 4 rfl) ?_
                    refine lv_aload_n hx hb dX10_applies_190 rfl (lv_at hl 7 rfl) ?_
                    refine jg_10_59 jc jw ho wd_6_118 dX10_applies_191 ?_
                    refine lv_iadd hx hb dX10_applies_194 ?_
                    refine lv_iload hx hb dX10_applies_195 (lv_at hl 0 rfl) ?_
                    refine lv_iconst (v := 2) hx hb dX10_applies_197 (by decide) ?_
                    refine lv_irem hx hb dX10_applies_198 (by decide) ?_
                    refine lv_iconst (v := 1) hx hb dX10_applies_199 (by decide) ?_
                    obtain ⟨G43, eG43, hE⟩ := j_ctxL hE
                    have J43 : ∀ (vv44 : Int32)  (H : Heap) (locs : List Loc) (ls : Array Slot), G43 (vv44) = some r → JW D Y ty ad A s.heap M H locs → lv_has ls 16 [(14, .int vv40), (13, .int vv38), (12, .int vv33), (11, .int vv28), (10, .int vv23), (9, .ref (ad oo17)), (8, .ref (ad oo11)), (0, .ref (ad o)), (1, .int p1), (2, .int p2), (3, .int p3)] → W p l e R s m args below meth c H locs 0 0 Q (F0 m 217 ls [.int vv44, .int (vv23 + (M o 59))]) := by
                      intro vv44  H locs ls hE jw hl
                      replace hE := j_popL eG43 hE
                      try dsimp only at hE
                      refine lv_iadd hx hb dX10_applies_217 ?_
                      refine lv_topi (fun vv45 evv45 => ?_)
                      replace hE := j_lu hE evv45
                      try dsimp only at hE
                      refine lv_istore (lv' := [(15, .int vv45), (14, .int vv40), (13, .int vv38), (12, .int vv33), (11, .int vv28), (10, .int vv23), (9, .ref (ad oo17)), (8, .ref (ad oo11)), (0, .ref (ad o)), (1, .int p1), (2, .int p2), (3, .int p3)]) hx hb dX10_applies_218 hl (by decide) rfl (fun ls hl => ?_)
                      refine lv_aload_n hx hb dX10_applies_220 rfl (lv_at hl 8 rfl) ?_
                      refine lv_iload_n hx hb dX10_applies_221 rfl (lv_at hl 9 rfl) ?_
                      refine lv_iload hx hb dX10_applies_222 (lv_at hl 0 rfl) ?_
                      refine lv_aload hx hb dX10_applies_224 (lv_at hl 7 rfl) ?_
                      refine lv_iload hx hb dX10_applies_226 (lv_at hl 5 rfl) ?_
                      refine lv_iload hx hb dX10_applies_228 (lv_at hl 4 rfl) ?_
                      obtain ⟨xx46, exx46, hE⟩ := j_bd hG39 hE
                      try dsimp only at hE
                      refine jc_vz [.int p1, .int vv45, .ref (ad oo11), .int vv23, .int vv28] [] jc jw hA ho (by decide) rfl (c_X10_fits hY ho k12 (M := M) exx46) sd_X10_314 rfl hl.1 (j_hR hRf hRl rfl rfl) (Nat.le_of_ble_eq_true rfl) dX10_applies_230 (fun H locs jw hz => ?_)
                      have z_47 := hz
                      refine lv_if_eq (tgt := 301) hx hb dX10_applies_233 (by decide) (fun c48 => ?_) (fun c48 => ?_)
                      · rw [if_pos c48] at hE
                        obtain ⟨vv49, evv49, hE⟩ := j_lv hE
                        try dsimp only at hE
                        refine lv_iinc (v := vv49) (lv' := [(14, .int vv49), (15, .int vv45), (13, .int vv38), (12, .int vv33), (11, .int vv28), (10, .int vv23), (9, .ref (ad oo17)), (8, .ref (ad oo11)), (0, .ref (ad o)), (1, .int p1), (2, .int p2), (3, .int p3)]) hx hb dX10_applies_301 hl (k := 1) rfl (by rw [evv49]; rfl) (by decide) rfl (fun ls hl => ?_)
                        refine lv_goto (tgt := 181) hx hb dX10_applies_304 (by decide) ?_
                        exact ih vv49 H locs ls hE jw (lv_sub hl [0, 2, 3, 4, 5, 6, 7, 8, 9, 10, 11] rfl)
                      · rw [if_neg c48] at hE
                        exact E39_236 vv45  H locs ls hE jw (lv_sub hl [2, 3, 4, 5, 6, 8, 9, 10, 11, 0] rfl)
                    refine lv_icmp_ne (tgt := 212) hx hb dX10_applies_200 (by decide) (fun c42 => ?_) (fun c42 => ?_)
                    · rw [if_neg c42] at hE
                      refine lv_iload hx hb dX10_applies_212 (lv_at hl 0 rfl) ?_
                      refine lv_ineg hx hb dX10_applies_214 ?_
                      refine lv_iconst (v := 2) hx hb dX10_applies_215 (by decide) ?_
                      refine lv_idiv hx hb dX10_applies_216 (by decide) ?_
                      exact J43 ((-vv40) / (2 : Int32))  H locs ls hE jw (lv_sub hl [0, 1, 2, 3, 4, 5, 6, 7, 8, 9, 10] rfl)
                    · rw [if_pos c42] at hE
                      refine lv_iload hx hb dX10_applies_203 (lv_at hl 0 rfl) ?_
                      refine lv_iconst (v := 1) hx hb dX10_applies_205 (by decide) ?_
                      refine lv_iadd hx hb dX10_applies_206 ?_
                      refine lv_iconst (v := 2) hx hb dX10_applies_207 (by decide) ?_
                      refine lv_idiv hx hb dX10_applies_208 (by decide) ?_
                      refine lv_goto (tgt := 217) hx hb dX10_applies_209 (by decide) ?_
                      exact J43 ((vv40 + (1 : Int32)) / (2 : Int32))  H locs ls hE jw (lv_sub hl [0, 1, 2, 3, 4, 5, 6, 7, 8, 9, 10] rfl)
              exact LP39 j_fuel (0 : Int32) H locs ls hE jw (lv_sub hl [0, 1, 2, 3, 4, 5, 6, 9, 10, 11, 12] rfl)
            refine lv_if_eq (tgt := 165) hx hb dX10_applies_155 (by decide) (fun c34 => ?_) (fun c34 => ?_)
            · rw [if_pos c34] at hE
              refine lv_iload hx hb dX10_applies_165 (lv_at hl 7 rfl) ?_
              refine lv_iconst (v := 3) hx hb dX10_applies_167 (by decide) ?_
              refine lv_iadd hx hb dX10_applies_168 ?_
              exact J35 (vv1 + (3 : Int32))  H locs ls hE jw (lv_sub hl [0, 1, 2, 3, 4, 5, 6, 8, 9, 10, 11] rfl)
            · rw [if_neg c34] at hE
              refine lv_iload hx hb dX10_applies_158 (lv_at hl 7 rfl) ?_
              refine lv_iconst (v := 1) hx hb dX10_applies_160 (by decide) ?_
              refine lv_iadd hx hb dX10_applies_161 ?_
              refine lv_goto (tgt := 169) hx hb dX10_applies_162 (by decide) ?_
              exact J35 (vv1 + (1 : Int32))  H locs ls hE jw (lv_sub hl [0, 1, 2, 3, 4, 5, 6, 8, 9, 10, 11] rfl)
          refine lv_if_eq (tgt := 139) hx hb dX10_applies_131 (by decide) (fun c29 => ?_) (fun c29 => ?_)
          · rw [if_pos c29] at hE
            refine lv_iload hx hb dX10_applies_139 (lv_at hl 6 rfl) ?_
            refine lv_iconst (v := 2) hx hb dX10_applies_141 (by decide) ?_
            refine lv_iadd hx hb dX10_applies_142 ?_
            exact J30 (vv1 + (2 : Int32))  H locs ls hE jw (lv_sub hl [0, 1, 2, 3, 4, 5, 6, 7, 8, 9, 10, 11] rfl)
          · rw [if_neg c29] at hE
            refine lv_iload hx hb dX10_applies_134 (lv_at hl 6 rfl) ?_
            refine lv_goto (tgt := 143) hx hb dX10_applies_136 (by decide) ?_
            exact J30 vv1  H locs ls hE jw (lv_sub hl [0, 1, 2, 3, 4, 5, 6, 7, 8, 9, 10, 11] rfl)
        refine lv_if_eq (tgt := 112) hx hb dX10_applies_102 (by decide) (fun c24 => ?_) (fun c24 => ?_)
        · rw [if_pos c24] at hE
          refine lv_iload hx hb dX10_applies_112 (lv_at hl 5 rfl) ?_
          refine lv_iconst (v := 1) hx hb dX10_applies_114 (by decide) ?_
          refine lv_iadd hx hb dX10_applies_115 ?_
          exact J25 (vv1 + (1 : Int32))  H locs ls hE jw (lv_sub hl [0, 1, 2, 3, 4, 5, 6, 7, 8, 9, 10] rfl)
        · rw [if_neg c24] at hE
          refine lv_iload hx hb dX10_applies_105 (lv_at hl 5 rfl) ?_
          refine lv_iconst (v := 3) hx hb dX10_applies_107 (by decide) ?_
          refine lv_iadd hx hb dX10_applies_108 ?_
          refine lv_goto (tgt := 116) hx hb dX10_applies_109 (by decide) ?_
          exact J25 (vv1 + (3 : Int32))  H locs ls hE jw (lv_sub hl [0, 1, 2, 3, 4, 5, 6, 7, 8, 9, 10] rfl)
      refine lv_if_eq (tgt := 88) hx hb dX10_applies_78 (by decide) (fun c19 => ?_) (fun c19 => ?_)
      · rw [if_pos c19] at hE
        refine lv_iload hx hb dX10_applies_88 (lv_at hl 4 rfl) ?_
        exact J20 vv1  H locs ls hE jw (lv_sub hl [0, 1, 2, 3, 4, 5, 6, 7, 8, 9] rfl)
      · rw [if_neg c19] at hE
        refine lv_iload hx hb dX10_applies_81 (lv_at hl 4 rfl) ?_
        refine lv_iconst (v := 2) hx hb dX10_applies_83 (by decide) ?_
        refine lv_iadd hx hb dX10_applies_84 ?_
        refine lv_goto (tgt := 90) hx hb dX10_applies_85 (by decide) ?_
        exact J20 (vv1 + (2 : Int32))  H locs ls hE jw (lv_sub hl [0, 1, 2, 3, 4, 5, 6, 7, 8, 9] rfl)
    refine lv_if_eq (tgt := 66) hx hb dX10_applies_56 (by decide) (fun c13 => ?_) (fun c13 => ?_)
    · rw [if_pos c13] at hE
      refine lv_aload_n hx hb dX10_applies_66 rfl (lv_at hl 4 rfl) ?_
      refine jg_10_55 jc jw ho wd_6_114 dX10_applies_67 ?_
      have k15 := j_sub hY ho 55 (f := 100) rfl (by decide) (by decide) (by decide)
      exact J14 (j_rf Y o 55) k15 H locs ls hE jw (lv_sub hl [0, 1, 2, 3, 4, 5, 6, 7, 8] rfl)
    · rw [if_neg c13] at hE
      refine lv_aload_n hx hb dX10_applies_59 rfl (lv_at hl 4 rfl) ?_
      refine jg_10_54 jc jw ho wd_6_113 dX10_applies_60 ?_
      have k16 := j_sub hY ho 54 (f := 100) rfl (by decide) (by decide) (by decide)
      refine lv_goto (tgt := 70) hx hb dX10_applies_63 (by decide) ?_
      exact J14 (j_rf Y o 54) k16 H locs ls hE jw (lv_sub hl [0, 1, 2, 3, 4, 5, 6, 7, 8] rfl)
  refine lv_if_eq (tgt := 48) hx hb dX10_applies_38 (by decide) (fun c7 => ?_) (fun c7 => ?_)
  · rw [if_pos c7] at hE
    refine lv_aload_n hx hb dX10_applies_48 rfl (lv_at hl 3 rfl) ?_
    refine jg_10_54 jc jw ho wd_6_113 dX10_applies_49 ?_
    have k9 := j_sub hY ho 54 (f := 100) rfl (by decide) (by decide) (by decide)
    exact J8 (j_rf Y o 54) k9 H locs ls hE jw (lv_sub hl [0, 1, 2, 3, 4, 5, 6, 7] rfl)
  · rw [if_neg c7] at hE
    refine lv_aload_n hx hb dX10_applies_41 rfl (lv_at hl 3 rfl) ?_
    refine jg_10_55 jc jw ho wd_6_114 dX10_applies_42 ?_
    have k10 := j_sub hY ho 55 (f := 100) rfl (by decide) (by decide) (by decide)
    refine lv_goto (tgt := 52) hx hb dX10_applies_45 (by decide) ?_
    exact J8 (j_rf Y o 55) k10 H locs ls hE jw (lv_sub hl [0, 1, 2, 3, 4, 5, 6, 7] rfl)
def lp_X10_apply_2 (Y : JY) (p2 : Int32) (o : Nat) (p1 : Int32) (vv13 : Int32) (p3 : Int32) (n : Nat) (vv22 : Int32) (vv23 : Int32) (mm24 : JM) : Option (Int32 × JM) := match n with
  | 0 => none
  | n + 1 => if p2 < vv23 ∨ ¬ (vv22 = 0) then (some (vv22, mm24)) else ((s_X10_applies Y mm24 o p1 vv13 vv23 p3).bind fun xx27 => lt_ xx27.1 fun vv29 => lt_ (vv23 + (1 : Int32)) fun vv30 => lp_X10_apply_2 Y p2 o p1 vv13 p3 n vv29 vv30 xx27.2)
def lp_X10_apply_3 (Y : JY) (o : Nat) (n : Nat) (vv48 : Int32) (mm49 : JM) : Option (JM) := match n with
  | 0 => none
  | n + 1 => if ((2 : Int32) * (mm49 o 53)) ≤ vv48 then (some mm49) else (if j_g vv48 (j_ln Y (j_rf Y o 60)) then (if j_g vv48 (j_ln Y (j_rf Y o 57)) then (lt_ (j_up mm49 (j_rf Y o 57) vv48.toNatClampNeg (mm49 (j_rf Y o 60) vv48.toNatClampNeg)) fun mm55 => lt_ (vv48 + (1 : Int32)) fun vv56 => lp_X10_apply_3 Y o n vv56 mm55) else none) else none)
def lp_X10_apply_1 (Y : JY) (o : Nat) (p2 : Int32) (p1 : Int32) (p3 : Int32) (n : Nat) (vv12 : Int32) (vv13 : Int32) (mm14 : JM) : Option (Int32 × JM) := match n with
  | 0 => none
  | n + 1 => if (mm14 o 53) ≤ vv13 then (some (vv12, mm14)) else (if j_g ((2 : Int32) * vv13) (j_ln Y (j_rf Y o 60)) then (lt_ (j_up mm14 (j_rf Y o 60) ((2 : Int32) * vv13).toNatClampNeg (-1 : Int32)) fun mm18 => if j_g (((2 : Int32) * vv13) + (1 : Int32)) (j_ln Y (j_rf Y o 60)) then (lt_ (j_up mm18 (j_rf Y o 60) (((2 : Int32) * vv13) + (1 : Int32)).toNatClampNeg (-1 : Int32)) fun mm20 => (lp_X10_apply_2 Y p2 o p1 vv13 p3 j_fuel (0 : Int32) (0 : Int32) mm20).bind fun xx40 => lt_ (if xx40.1 = 0 then ((0 : Int32)) else ((1 : Int32))) fun xx39 => lt_ (vv12 + xx39) fun vv37 => lt_ (vv13 + (1 : Int32)) fun vv38 => lp_X10_apply_1 Y o p2 p1 p3 n vv37 vv38 xx40.2) else none) else none)
def s_X10_apply (Y : JY) (M : JM) (o : Nat) (p1 : Int32) (p2 : Int32) (p3 : Int32) : Option (Int32 × JM) := if (s_X10_isRegister Y M p1) = 0 ∨ (s_X10_in Y M p2 (0 : Int32) (2 : Int32)) = 0 then (lt_ (s_X10_fails Y M o (1 : Int32)) fun xx5 => some (xx5.1, xx5.2)) else (if (j_z (M o 51)) = 0 then (lt_ (s_X10_fails Y M o (2 : Int32)) fun xx7 => some (xx7.1, xx7.2)) else (lt_ (j_up M o 58 (0 : Int32)) fun mm8 => lt_ (j_up mm8 o 59 (0 : Int32)) fun mm9 => lt_ (j_up mm9 o 18 (0 : Int32)) fun mm10 => (lp_X10_apply_1 Y o p2 p1 p3 j_fuel (0 : Int32) (0 : Int32) mm10).bind fun xx65 => if j_g p1 (j_ln Y (j_rf Y o 2)) then ((s_X10_goesOutDocument Y xx65.2 o p1 (xx65.2 o 58) (xx65.2 (j_rf Y o 2) p1.toNatClampNeg)).bind fun xx45 => if (xx45 o 18) ≤ (24 : Int32) then ((lp_X10_apply_3 Y o j_fuel (0 : Int32) xx45).bind fun xx63 => lt_ (j_up xx63 o 56 (1 : Int32)) fun mm58 => (s_X10_remembers Y mm58 o p1).bind fun xx59 => (s_X10_holds Y xx59 o p1 (j_rf Y o 15) (xx59 o 18)).bind fun xx61 => lt_ (s_X10_done Y xx61 o xx65.1) fun xx62 => some (xx62.1, xx62.2)) else (lt_ (s_X10_fails Y xx45 o (3 : Int32)) fun xx64 => some (xx64.1, xx64.2))) else none))
set_option maxRecDepth 100000 in
set_option maxHeartbeats 4000000 in
theorem c_X10_apply {D : va_G} {Y : JY} {ty : Nat → ClassId} {ad : Nat → Nat} {sz : Nat} {l : Launch} {M : JM} (hY : j_ok Y) {o : Nat} {p1 : Int32} {p2 : Int32} {p3 : Int32} (ho : j_kd Y o = 10) {r : Int32 × JM} (hE : s_X10_apply Y M o p1 p2 p3 = some r) : JMi D Y ty ad sz l yX10_apply cX10_apply 8 (some .int) 2 62 [.ref (ad o), .int p1, .int p2, .int p3] M r.1 r.2 := by
  refine j_ofI hY (by decide +kernel) (Nat.le_of_ble_eq_true rfl) (fun p e s m below meth c args R Q A hRf hRl hA jc jw kr ls hl => ?_)
  have hx := jc.1
  have hb := jc.2.1
  have hl : lv_has ls 8 [(0, .ref (ad o)), (1, .int p1), (2, .int p2), (3, .int p3)] := hl
  unfold s_X10_apply at hE
  obtain ⟨G0, eG0, hG0, hE⟩ := j_F0o hE
  refine lv_iload_n hx hb dX10_apply_0 rfl (lv_at hl 1 rfl) ?_
  refine jc_sz [.int p1] [] jc jw hA (c_X10_isRegister hY  (M := M) rfl) sd_X10_126 rfl hl.1 (j_hR hRf hRl rfl rfl) (Nat.le_of_ble_eq_true rfl) dX10_apply_1 (fun H locs jw hz => ?_)
  have z_1 := hz
  have B66 : ∀ (H : Heap) (locs : List Loc), JW D Y ty ad A s.heap M H locs → ((s_X10_isRegister Y M p1) = 0 ∨ (s_X10_in Y M p2 (0 : Int32) (2 : Int32)) = 0) → W p l e R s m args below meth c H locs 0 0 Q (F0 m 16 ls []) := by
    intro H locs jw hcc
    rw [if_pos hcc] at hE
    refine lv_aload_n hx hb dX10_apply_16 rfl (lv_at hl 0 rfl) ?_
    refine lv_iconst (v := 1) hx hb dX10_apply_17 (by decide) ?_
    obtain ⟨xx5, exx5, hE⟩ := j_lv hE
    try dsimp only at hE
    refine jc_vi [.int (1 : Int32)] [] jc jw hA ho (by decide) rfl (c_X10_fails hY ho (M := M) exx5.symm) sd_X10_130 rfl hl.1 (j_hR hRf hRl rfl rfl) (Nat.le_of_ble_eq_true rfl) dX10_apply_18 (fun H locs jw => ?_)
    exact kr _ _ _ _ _ _ (congrArg Prod.fst (Option.some.inj (j_ret eG0 hE))) (congrArg Prod.snd (Option.some.inj (j_ret eG0 hE))) jw dX10_apply_21
  refine lv_if_eq (tgt := 16) hx hb dX10_apply_4 (by decide) (fun c2 => B66 _ _ jw (Or.inl c2)) (fun c2 => ?_)
  refine lv_iload_n hx hb dX10_apply_7 rfl (lv_at hl 2 rfl) ?_
  refine lv_iconst (v := 0) hx hb dX10_apply_8 (by decide) ?_
  refine lv_iconst (v := 2) hx hb dX10_apply_9 (by decide) ?_
  refine jc_sz [.int p2, .int (0 : Int32), .int (2 : Int32)] [] jc jw hA (c_X10_in hY  (M := M) rfl) sd_X10_119 rfl hl.1 (j_hR hRf hRl rfl rfl) (Nat.le_of_ble_eq_true rfl) dX10_apply_10 (fun H locs jw hz => ?_)
  have z_3 := hz
  refine lv_if_ne (tgt := 22) hx hb dX10_apply_13 (by decide) (fun c4 => ?_) (fun c4 => B66 _ _ jw (Or.inr c4))
  rw [if_neg (fun hq => hq.elim (fun hq => (j_abs c2 hq)) (fun hq => (j_abs c4 hq)))] at hE
  refine lv_aload_n hx hb dX10_apply_22 rfl (lv_at hl 0 rfl) ?_
  refine jg_10_51 jc jw ho wd_6_110 dX10_apply_23 ?_
  refine lv_if_ne (tgt := 35) hx hb dX10_apply_26 (by decide) (fun c6 => ?_) (fun c6 => ?_)
  · rw [if_neg c6] at hE
    refine lv_aload_n hx hb dX10_apply_35 rfl (lv_at hl 0 rfl) ?_
    refine lv_iconst (v := 0) hx hb dX10_apply_36 (by decide) ?_
    refine js_10_58 jc jw ho wd_6_117 dX10_apply_37 (fun H locs jw => ?_)
    obtain ⟨mm8, emm8, hE⟩ := j_lv hE
    rw [← emm8] at jw
    try dsimp only at hE
    refine lv_aload_n hx hb dX10_apply_40 rfl (lv_at hl 0 rfl) ?_
    refine lv_iconst (v := 0) hx hb dX10_apply_41 (by decide) ?_
    refine js_10_59 jc jw ho wd_6_118 dX10_apply_42 (fun H locs jw => ?_)
    obtain ⟨mm9, emm9, hE⟩ := j_lv hE
    rw [← emm9] at jw
    try dsimp only at hE
    refine lv_aload_n hx hb dX10_apply_45 rfl (lv_at hl 0 rfl) ?_
    refine lv_iconst (v := 0) hx hb dX10_apply_46 (by decide) ?_
    refine js_10_18 jc jw ho wd_6_77 dX10_apply_47 (fun H locs jw => ?_)
    obtain ⟨mm10, emm10, hE⟩ := j_lv hE
    rw [← emm10] at jw
    try dsimp only at hE
    refine lv_iconst (v := 0) hx hb dX10_apply_50 (by decide) ?_
    refine lv_istore (lv' := [(4, .int (0 : Int32)), (0, .ref (ad o)), (1, .int p1), (2, .int p2), (3, .int p3)]) hx hb dX10_apply_51 hl (by decide) rfl (fun ls hl => ?_)
    refine lv_iconst (v := 0) hx hb dX10_apply_53 (by decide) ?_
    refine lv_istore (lv' := [(5, .int (0 : Int32)), (4, .int (0 : Int32)), (0, .ref (ad o)), (1, .int p1), (2, .int p2), (3, .int p3)]) hx hb dX10_apply_54 hl (by decide) rfl (fun ls hl => ?_)
    obtain ⟨G11, eG11, hG11, hE⟩ := j_ctxB hG0 hE
    have E11_143 : ∀ (vv41 : Int32) (mm42 : JM)  (H : Heap) (locs : List Loc) (ls : Array Slot), G11 (some (vv41, mm42)) = some r → JW D Y ty ad A s.heap mm42 H locs → lv_has ls 8 [(4, .int vv41), (0, .ref (ad o)), (1, .int p1)] → W p l e R s m args below meth c H locs 0 0 Q (F0 m 143 ls []) := by
      intro vv41 mm42  H locs ls hE jw hl
      replace hE := j_popB eG11 hE
      try dsimp only at hE
      refine lv_aload_n hx hb dX10_apply_143 rfl (lv_at hl 1 rfl) ?_
      refine lv_iload_n hx hb dX10_apply_144 rfl (lv_at hl 2 rfl) ?_
      refine lv_aload_n hx hb dX10_apply_145 rfl (lv_at hl 1 rfl) ?_
      refine jg_10_58 jc jw ho wd_6_117 dX10_apply_146 ?_
      refine lv_aload_n hx hb dX10_apply_149 rfl (lv_at hl 1 rfl) ?_
      refine jg_10_2 jc jw ho wd_6_61 dX10_apply_150 ?_
      have k43 := j_sub hY ho 2 (f := 100) rfl (by decide) (by decide) (by decide)
      refine lv_iload_n hx hb dX10_apply_153 rfl (lv_at hl 2 rfl) ?_
      rcases Classical.em (j_g p1 (j_ln Y (j_rf Y o 2))) with g44 | g44
      case inr => rw [if_neg g44] at hE; exact absurd hE (hG0 _)
      rw [if_pos g44] at hE
      refine jr_iald jc jw k43 (j_g_in g44) dX10_apply_154 ?_
      obtain ⟨xx45, exx45, hE⟩ := j_bd hG0 hE
      try dsimp only at hE
      refine jc_vv [.int p1, .int (mm42 o 58), .int (mm42 (j_rf Y o 2) p1.toNatClampNeg)] [] jc jw hA ho (by decide) rfl (c_X10_goesOutDocument hY ho (M := mm42) exx45) sd_X10_318 rfl hl.1 (j_hR hRf hRl rfl rfl) (Nat.le_of_ble_eq_true rfl) dX10_apply_155 (fun H locs jw => ?_)
      refine lv_aload_n hx hb dX10_apply_158 rfl (lv_at hl 1 rfl) ?_
      refine jg_10_18 jc jw ho wd_6_77 dX10_apply_159 ?_
      refine lv_bipush (v := 24) hx hb dX10_apply_162 (by decide) ?_
      refine lv_icmp_le (tgt := 173) hx hb dX10_apply_164 (by decide) (fun c46 => ?_) (fun c46 => ?_)
      · rw [if_pos c46] at hE
        refine lv_iconst (v := 0) hx hb dX10_apply_173 (by decide) ?_
        refine lv_istore (lv' := [(5, .int (0 : Int32)), (4, .int vv41), (0, .ref (ad o)), (1, .int p1)]) hx hb dX10_apply_174 hl (by decide) rfl (fun ls hl => ?_)
        obtain ⟨G47, eG47, hG47, hE⟩ := j_ctxB hG0 hE
        have E47_207 : ∀ (mm57 : JM)  (H : Heap) (locs : List Loc) (ls : Array Slot), G47 (some mm57) = some r → JW D Y ty ad A s.heap mm57 H locs → lv_has ls 8 [(4, .int vv41), (0, .ref (ad o)), (1, .int p1)] → W p l e R s m args below meth c H locs 0 0 Q (F0 m 207 ls []) := by
          intro mm57  H locs ls hE jw hl
          replace hE := j_popB eG47 hE
          try dsimp only at hE
          refine lv_aload_n hx hb dX10_apply_207 rfl (lv_at hl 1 rfl) ?_
          refine lv_iconst (v := 1) hx hb dX10_apply_208 (by decide) ?_
          refine js_10_56 jc jw ho wd_6_115 (by decide) dX10_apply_209 (fun H locs jw => ?_)
          obtain ⟨mm58, emm58, hE⟩ := j_lv hE
          rw [← emm58] at jw
          try dsimp only at hE
          refine lv_aload_n hx hb dX10_apply_212 rfl (lv_at hl 1 rfl) ?_
          refine lv_iload_n hx hb dX10_apply_213 rfl (lv_at hl 2 rfl) ?_
          obtain ⟨xx59, exx59, hE⟩ := j_bd hG0 hE
          try dsimp only at hE
          refine jc_vv [.int p1] [] jc jw hA ho (by decide) rfl (c_X10_remembers hY ho (M := mm58) exx59) sd_X10_134 rfl hl.1 (j_hR hRf hRl rfl rfl) (Nat.le_of_ble_eq_true rfl) dX10_apply_214 (fun H locs jw => ?_)
          refine lv_aload_n hx hb dX10_apply_217 rfl (lv_at hl 1 rfl) ?_
          refine lv_iload_n hx hb dX10_apply_218 rfl (lv_at hl 2 rfl) ?_
          refine lv_aload_n hx hb dX10_apply_219 rfl (lv_at hl 1 rfl) ?_
          refine jg_10_15 jc jw ho wd_6_74 dX10_apply_220 ?_
          have k60 := j_sub hY ho 15 (f := 100) rfl (by decide) (by decide) (by decide)
          refine lv_aload_n hx hb dX10_apply_223 rfl (lv_at hl 1 rfl) ?_
          refine jg_10_18 jc jw ho wd_6_77 dX10_apply_224 ?_
          obtain ⟨xx61, exx61, hE⟩ := j_bd hG0 hE
          try dsimp only at hE
          refine jc_vv [.int p1, .ref (ad (j_rf Y o 15)), .int (xx59 o 18)] [] jc jw hA ho (by decide) rfl (c_X10_holds hY ho k60 (M := xx59) exx61) sd_X10_141 rfl hl.1 (j_hR hRf hRl rfl rfl) (Nat.le_of_ble_eq_true rfl) dX10_apply_227 (fun H locs jw => ?_)
          refine lv_aload_n hx hb dX10_apply_230 rfl (lv_at hl 1 rfl) ?_
          refine lv_iload hx hb dX10_apply_231 (lv_at hl 0 rfl) ?_
          obtain ⟨xx62, exx62, hE⟩ := j_lv hE
          try dsimp only at hE
          refine jc_vi [.int vv41] [] jc jw hA ho (by decide) rfl (c_X10_done hY ho (M := xx61) exx62.symm) sd_X10_138 rfl hl.1 (j_hR hRf hRl rfl rfl) (Nat.le_of_ble_eq_true rfl) dX10_apply_233 (fun H locs jw => ?_)
          exact kr _ _ _ _ _ _ (congrArg Prod.fst (Option.some.inj (j_ret eG0 hE))) (congrArg Prod.snd (Option.some.inj (j_ret eG0 hE))) jw dX10_apply_236
        have LP47 : ∀ (n : Nat) (vv48 : Int32) (mm49 : JM) (H : Heap) (locs : List Loc) (ls : Array Slot), G47 (lp_X10_apply_3 Y o n vv48 mm49) = some r → JW D Y ty ad A s.heap mm49 H locs → lv_has ls 8 [(5, .int vv48), (4, .int vv41), (0, .ref (ad o)), (1, .int p1)] → W p l e R s m args below meth c H locs 0 0 Q (F0 m 176 ls []) := by
          intro n
          induction n with
          | zero => intro vv48 mm49 H locs ls hE jw hl; exact absurd hE (hG47 _)
          | succ n ih =>
            intro vv48 mm49 H locs ls hE jw hl
            rw [lp_X10_apply_3] at hE
            refine lv_iload hx hb dX10_apply_176 (lv_at hl 0 rfl) ?_
            refine lv_iconst (v := 2) hx hb dX10_apply_178 (by decide) ?_
            refine lv_aload_n hx hb dX10_apply_179 rfl (lv_at hl 2 rfl) ?_
            refine jg_10_53 jc jw ho wd_6_112 dX10_apply_180 ?_
            refine lv_imul hx hb dX10_apply_183 ?_
            refine lv_icmp_ge (tgt := 207) hx hb dX10_apply_184 (by decide) (fun c50 => ?_) (fun c50 => ?_)
            · rw [if_pos c50] at hE
              exact E47_207 mm49  H locs ls hE jw (lv_sub hl [1, 2, 3] rfl)
            · rw [if_neg c50] at hE
              refine lv_aload_n hx hb dX10_apply_187 rfl (lv_at hl 2 rfl) ?_
              refine jg_10_57 jc jw ho wd_6_116 dX10_apply_188 ?_
              have k51 := j_sub hY ho 57 (f := 100) rfl (by decide) (by decide) (by decide)
              refine lv_iload hx hb dX10_apply_191 (lv_at hl 0 rfl) ?_
              refine lv_aload_n hx hb dX10_apply_193 rfl (lv_at hl 2 rfl) ?_
              refine jg_10_60 jc jw ho wd_6_119 dX10_apply_194 ?_
              have k52 := j_sub hY ho 60 (f := 100) rfl (by decide) (by decide) (by decide)
              refine lv_iload hx hb dX10_apply_197 (lv_at hl 0 rfl) ?_
              rcases Classical.em (j_g vv48 (j_ln Y (j_rf Y o 60))) with g53 | g53
              case inr => rw [if_neg g53] at hE; exact absurd hE (hG47 _)
              rw [if_pos g53] at hE
              refine jr_iald jc jw k52 (j_g_in g53) dX10_apply_199 ?_
              rcases Classical.em (j_g vv48 (j_ln Y (j_rf Y o 57))) with g54 | g54
              case inr => rw [if_neg g54] at hE; exact absurd hE (hG47 _)
              rw [if_pos g54] at hE
              refine jr_iast jc jw k51 (j_g_in g54) dX10_apply_200 (fun H locs jw => ?_)
              obtain ⟨mm55, emm55, hE⟩ := j_lv hE
              rw [← emm55] at jw
              try dsimp only at hE
              obtain ⟨vv56, evv56, hE⟩ := j_lv hE
              try dsimp only at hE
              refine lv_iinc (v := vv56) (lv' := [(5, .int vv56), (4, .int vv41), (0, .ref (ad o)), (1, .int p1)]) hx hb dX10_apply_201 hl (k := 0) rfl (by rw [evv56]; rfl) (by decide) rfl (fun ls hl => ?_)
              refine lv_goto (tgt := 176) hx hb dX10_apply_204 (by decide) ?_
              exact ih vv56 mm55 H locs ls hE jw (lv_sub hl [0, 1, 2, 3] rfl)
        exact LP47 j_fuel (0 : Int32) xx45 H locs ls hE jw (lv_sub hl [0, 1, 2, 3] rfl)
      · rw [if_neg c46] at hE
        refine lv_aload_n hx hb dX10_apply_167 rfl (lv_at hl 1 rfl) ?_
        refine lv_iconst (v := 3) hx hb dX10_apply_168 (by decide) ?_
        obtain ⟨xx64, exx64, hE⟩ := j_lv hE
        try dsimp only at hE
        refine jc_vi [.int (3 : Int32)] [] jc jw hA ho (by decide) rfl (c_X10_fails hY ho (M := xx45) exx64.symm) sd_X10_130 rfl hl.1 (j_hR hRf hRl rfl rfl) (Nat.le_of_ble_eq_true rfl) dX10_apply_169 (fun H locs jw => ?_)
        exact kr _ _ _ _ _ _ (congrArg Prod.fst (Option.some.inj (j_ret eG0 hE))) (congrArg Prod.snd (Option.some.inj (j_ret eG0 hE))) jw dX10_apply_172
    have LP11 : ∀ (n : Nat) (vv12 : Int32) (vv13 : Int32) (mm14 : JM) (H : Heap) (locs : List Loc) (ls : Array Slot), G11 (lp_X10_apply_1 Y o p2 p1 p3 n vv12 vv13 mm14) = some r → JW D Y ty ad A s.heap mm14 H locs → lv_has ls 8 [(5, .int vv13), (4, .int vv12), (0, .ref (ad o)), (1, .int p1), (2, .int p2), (3, .int p3)] → W p l e R s m args below meth c H locs 0 0 Q (F0 m 56 ls []) := by
      intro n
      induction n with
      | zero => intro vv12 vv13 mm14 H locs ls hE jw hl; exact absurd hE (hG11 _)
      | succ n ih =>
        intro vv12 vv13 mm14 H locs ls hE jw hl
        rw [lp_X10_apply_1] at hE
        refine lv_iload hx hb dX10_apply_56 (lv_at hl 0 rfl) ?_
        refine lv_aload_n hx hb dX10_apply_58 rfl (lv_at hl 2 rfl) ?_
        refine jg_10_53 jc jw ho wd_6_112 dX10_apply_59 ?_
        refine lv_icmp_ge (tgt := 143) hx hb dX10_apply_62 (by decide) (fun c15 => ?_) (fun c15 => ?_)
        · rw [if_pos c15] at hE
          exact E11_143 vv12 mm14  H locs ls hE jw (lv_sub hl [1, 2, 3] rfl)
        · rw [if_neg c15] at hE
          refine lv_aload_n hx hb dX10_apply_65 rfl (lv_at hl 2 rfl) ?_
          refine jg_10_60 jc jw ho wd_6_119 dX10_apply_66 ?_
          have k16 := j_sub hY ho 60 (f := 100) rfl (by decide) (by decide) (by decide)
          refine lv_iconst (v := 2) hx hb dX10_apply_69 (by decide) ?_
          refine lv_iload hx hb dX10_apply_70 (lv_at hl 0 rfl) ?_
          refine lv_imul hx hb dX10_apply_72 ?_
          refine lv_iconst (v := -1) hx hb dX10_apply_73 (by decide) ?_
          rcases Classical.em (j_g ((2 : Int32) * vv13) (j_ln Y (j_rf Y o 60))) with g17 | g17
          case inr => rw [if_neg g17] at hE; exact absurd hE (hG11 _)
          rw [if_pos g17] at hE
          refine jr_iast jc jw k16 (j_g_in g17) dX10_apply_74 (fun H locs jw => ?_)
          obtain ⟨mm18, emm18, hE⟩ := j_lv hE
          rw [← emm18] at jw
          try dsimp only at hE
          refine lv_aload_n hx hb dX10_apply_75 rfl (lv_at hl 2 rfl) ?_
          refine jg_10_60 jc jw ho wd_6_119 dX10_apply_76 ?_
          refine lv_iconst (v := 2) hx hb dX10_apply_79 (by decide) ?_
          refine lv_iload hx hb dX10_apply_80 (lv_at hl 0 rfl) ?_
          refine lv_imul hx hb dX10_apply_82 ?_
          refine lv_iconst (v := 1) hx hb dX10_apply_83 (by decide) ?_
          refine lv_iadd hx hb dX10_apply_84 ?_
          refine lv_iconst (v := -1) hx hb dX10_apply_85 (by decide) ?_
          rcases Classical.em (j_g (((2 : Int32) * vv13) + (1 : Int32)) (j_ln Y (j_rf Y o 60))) with g19 | g19
          case inr => rw [if_neg g19] at hE; exact absurd hE (hG11 _)
          rw [if_pos g19] at hE
          refine jr_iast jc jw k16 (j_g_in g19) dX10_apply_86 (fun H locs jw => ?_)
          obtain ⟨mm20, emm20, hE⟩ := j_lv hE
          rw [← emm20] at jw
          try dsimp only at hE
          refine lv_iconst (v := 0) hx hb dX10_apply_87 (by decide) ?_
          refine lv_istore (lv' := [(6, .int (0 : Int32)), (5, .int vv13), (4, .int vv12), (0, .ref (ad o)), (1, .int p1), (2, .int p2), (3, .int p3)]) hx hb dX10_apply_88 hl (by decide) rfl (fun ls hl => ?_)
          refine lv_iconst (v := 0) hx hb dX10_apply_90 (by decide) ?_
          refine lv_istore (lv' := [(7, .int (0 : Int32)), (6, .int (0 : Int32)), (5, .int vv13), (4, .int vv12), (0, .ref (ad o)), (1, .int p1), (2, .int p2), (3, .int p3)]) hx hb dX10_apply_91 hl (by decide) rfl (fun ls hl => ?_)
          obtain ⟨G21, eG21, hG21, hE⟩ := j_ctxB hG11 hE
          have E21_122 : ∀ (vv32 : Int32) (mm33 : JM)  (H : Heap) (locs : List Loc) (ls : Array Slot), G21 (some (vv32, mm33)) = some r → JW D Y ty ad A s.heap mm33 H locs → lv_has ls 8 [(6, .int vv32), (5, .int vv13), (4, .int vv12), (0, .ref (ad o)), (1, .int p1), (2, .int p2), (3, .int p3)] → W p l e R s m args below meth c H locs 0 0 Q (F0 m 122 ls []) := by
            intro vv32 mm33  H locs ls hE jw hl
            replace hE := j_popB eG21 hE
            try dsimp only at hE
            refine lv_iload hx hb dX10_apply_122 (lv_at hl 2 rfl) ?_
            refine lv_iload hx hb dX10_apply_124 (lv_at hl 0 rfl) ?_
            obtain ⟨G35, eG35, hE⟩ := j_ctxL hE
            have J35 : ∀ (vv36 : Int32)  (H : Heap) (locs : List Loc) (ls : Array Slot), G35 (vv36) = some r → JW D Y ty ad A s.heap mm33 H locs → lv_has ls 8 [(5, .int vv13), (0, .ref (ad o)), (1, .int p1), (2, .int p2), (3, .int p3)] → W p l e R s m args below meth c H locs 0 0 Q (F0 m 134 ls [.int vv36, .int vv12]) := by
              intro vv36  H locs ls hE jw hl
              replace hE := j_popL eG35 hE
              try dsimp only at hE
              refine lv_iadd hx hb dX10_apply_134 ?_
              refine lv_topi (fun vv37 evv37 => ?_)
              replace hE := j_lu hE evv37
              try dsimp only at hE
              refine lv_istore (lv' := [(4, .int vv37), (5, .int vv13), (0, .ref (ad o)), (1, .int p1), (2, .int p2), (3, .int p3)]) hx hb dX10_apply_135 hl (by decide) rfl (fun ls hl => ?_)
              obtain ⟨vv38, evv38, hE⟩ := j_lv hE
              try dsimp only at hE
              refine lv_iinc (v := vv38) (lv' := [(5, .int vv38), (4, .int vv37), (0, .ref (ad o)), (1, .int p1), (2, .int p2), (3, .int p3)]) hx hb dX10_apply_137 hl (k := 1) rfl (by rw [evv38]; rfl) (by decide) rfl (fun ls hl => ?_)
              refine lv_goto (tgt := 56) hx hb dX10_apply_140 (by decide) ?_
              exact ih vv37 vv38 mm33 H locs ls hE jw (lv_sub hl [0, 1, 2, 3, 4, 5] rfl)
            refine lv_if_eq (tgt := 133) hx hb dX10_apply_126 (by decide) (fun c34 => ?_) (fun c34 => ?_)
            · rw [if_pos c34] at hE
              refine lv_iconst (v := 0) hx hb dX10_apply_133 (by decide) ?_
              exact J35 (0 : Int32)  H locs ls hE jw (lv_sub hl [1, 3, 4, 5, 6] rfl)
            · rw [if_neg c34] at hE
              refine lv_iconst (v := 1) hx hb dX10_apply_129 (by decide) ?_
              refine lv_goto (tgt := 134) hx hb dX10_apply_130 (by decide) ?_
              exact J35 (1 : Int32)  H locs ls hE jw (lv_sub hl [1, 3, 4, 5, 6] rfl)
          have LP21 : ∀ (n : Nat) (vv22 : Int32) (vv23 : Int32) (mm24 : JM) (H : Heap) (locs : List Loc) (ls : Array Slot), G21 (lp_X10_apply_2 Y p2 o p1 vv13 p3 n vv22 vv23 mm24) = some r → JW D Y ty ad A s.heap mm24 H locs → lv_has ls 8 [(7, .int vv23), (6, .int vv22), (5, .int vv13), (4, .int vv12), (0, .ref (ad o)), (1, .int p1), (2, .int p2), (3, .int p3)] → W p l e R s m args below meth c H locs 0 0 Q (F0 m 93 ls []) := by
            intro n
            induction n with
            | zero => intro vv22 vv23 mm24 H locs ls hE jw hl; exact absurd hE (hG21 _)
            | succ n ih =>
              intro vv22 vv23 mm24 H locs ls hE jw hl
              rw [lp_X10_apply_2] at hE
              refine lv_iload hx hb dX10_apply_93 (lv_at hl 0 rfl) ?_
              refine lv_iload_n hx hb dX10_apply_95 rfl (lv_at hl 6 rfl) ?_
              have B31 : ∀ (H : Heap) (locs : List Loc), JW D Y ty ad A s.heap mm24 H locs → (p2 < vv23 ∨ ¬ (vv22 = 0)) → W p l e R s m args below meth c H locs 0 0 Q (F0 m 122 ls []) := by
                intro H locs jw hcc
                rw [if_pos hcc] at hE
                exact E21_122 vv22 mm24  H locs ls hE jw (lv_sub hl [1, 2, 3, 4, 5, 6, 7] rfl)
              refine lv_icmp_gt (tgt := 122) hx hb dX10_apply_96 (by decide) (fun c25 => B31 _ _ jw (Or.inl c25)) (fun c25 => ?_)
              refine lv_iload hx hb dX10_apply_99 (lv_at hl 1 rfl) ?_
              refine lv_if_ne (tgt := 122) hx hb dX10_apply_101 (by decide) (fun c26 => B31 _ _ jw (Or.inr c26)) (fun c26 => ?_)
              rw [if_neg (fun hq => hq.elim (fun hq => (j_abs c25 hq)) (fun hq => (j_absn c26 hq)))] at hE
              refine lv_aload_n hx hb dX10_apply_104 rfl (lv_at hl 4 rfl) ?_
              refine lv_iload_n hx hb dX10_apply_105 rfl (lv_at hl 5 rfl) ?_
              refine lv_iload hx hb dX10_apply_106 (lv_at hl 2 rfl) ?_
              refine lv_iload hx hb dX10_apply_108 (lv_at hl 0 rfl) ?_
              refine lv_iload_n hx hb dX10_apply_110 rfl (lv_at hl 7 rfl) ?_
              obtain ⟨xx27, exx27, hE⟩ := j_bd hG21 hE
              try dsimp only at hE
              refine jc_vz [.int p1, .int vv13, .int vv23, .int p3] [] jc jw hA ho (by decide) rfl (c_X10_applies hY ho (M := mm24) exx27) sd_X10_321 rfl hl.1 (j_hR hRf hRl rfl rfl) (Nat.le_of_ble_eq_true rfl) dX10_apply_111 (fun H locs jw hz => ?_)
              have z_28 := hz
              refine lv_topi (fun vv29 evv29 => ?_)
              replace hE := j_lu hE evv29
              try dsimp only at hE
              have zvv29 : vv29 = 0 ∨ vv29 = 1 := by rw [evv29]; exact z_28
              refine lv_istore (lv' := [(6, .int vv29), (7, .int vv23), (5, .int vv13), (4, .int vv12), (0, .ref (ad o)), (1, .int p1), (2, .int p2), (3, .int p3)]) hx hb dX10_apply_114 hl (by decide) rfl (fun ls hl => ?_)
              obtain ⟨vv30, evv30, hE⟩ := j_lv hE
              try dsimp only at hE
              refine lv_iinc (v := vv30) (lv' := [(7, .int vv30), (6, .int vv29), (5, .int vv13), (4, .int vv12), (0, .ref (ad o)), (1, .int p1), (2, .int p2), (3, .int p3)]) hx hb dX10_apply_116 hl (k := 1) rfl (by rw [evv30]; rfl) (by decide) rfl (fun ls hl => ?_)
              refine lv_goto (tgt := 93) hx hb dX10_apply_119 (by decide) ?_
              exact ih vv29 vv30 xx27.2 H locs ls hE jw (lv_sub hl [0, 1, 2, 3, 4, 5, 6, 7] rfl)
          exact LP21 j_fuel (0 : Int32) (0 : Int32) mm20 H locs ls hE jw (lv_sub hl [0, 1, 2, 3, 4, 5, 6, 7] rfl)
    exact LP11 j_fuel (0 : Int32) (0 : Int32) mm10 H locs ls hE jw (lv_sub hl [0, 1, 2, 3, 4, 5] rfl)
  · rw [if_pos c6] at hE
    refine lv_aload_n hx hb dX10_apply_29 rfl (lv_at hl 0 rfl) ?_
    refine lv_iconst (v := 2) hx hb dX10_apply_30 (by decide) ?_
    obtain ⟨xx7, exx7, hE⟩ := j_lv hE
    try dsimp only at hE
    refine jc_vi [.int (2 : Int32)] [] jc jw hA ho (by decide) rfl (c_X10_fails hY ho (M := M) exx7.symm) sd_X10_130 rfl hl.1 (j_hR hRf hRl rfl rfl) (Nat.le_of_ble_eq_true rfl) dX10_apply_31 (fun H locs jw => ?_)
    exact kr _ _ _ _ _ _ (congrArg Prod.fst (Option.some.inj (j_ret eG0 hE))) (congrArg Prod.snd (Option.some.inj (j_ret eG0 hE))) jw dX10_apply_34
def s_X10_outcome (Y : JY) (M : JM) (o : Nat) (p1 : Int32) (p2 : Int32) : Option (Int32 × JM) := if (j_z (M o 56)) = 0 ∨ (s_X10_in Y M p1 (0 : Int32) ((M o 53) - (1 : Int32))) = 0 then (lt_ (s_X10_fails Y M o (1 : Int32)) fun xx4 => some (xx4.1, xx4.2)) else (if (s_X10_in Y M p2 (0 : Int32) (1 : Int32)) = 0 then (lt_ (s_X10_fails Y M o (2 : Int32)) fun xx7 => some (xx7.1, xx7.2)) else (if j_g (((2 : Int32) * p1) + p2) (j_ln Y (j_rf Y o 57)) then (lt_ (s_X10_done Y M o (M (j_rf Y o 57) (((2 : Int32) * p1) + p2).toNatClampNeg)) fun xx10 => some (xx10.1, xx10.2)) else none))
set_option maxRecDepth 100000 in
set_option maxHeartbeats 4000000 in
theorem c_X10_outcome {D : va_G} {Y : JY} {ty : Nat → ClassId} {ad : Nat → Nat} {sz : Nat} {l : Launch} {M : JM} (hY : j_ok Y) {o : Nat} {p1 : Int32} {p2 : Int32} (ho : j_kd Y o = 10) {r : Int32 × JM} (hE : s_X10_outcome Y M o p1 p2 = some r) : JMi D Y ty ad sz l yX10_outcome cX10_outcome 3 (some .int) 1 22 [.ref (ad o), .int p1, .int p2] M r.1 r.2 := by
  refine j_ofI hY (by decide +kernel) (Nat.le_of_ble_eq_true rfl) (fun p e s m below meth c args R Q A hRf hRl hA jc jw kr ls hl => ?_)
  have hx := jc.1
  have hb := jc.2.1
  have hl : lv_has ls 3 [(0, .ref (ad o)), (1, .int p1), (2, .int p2)] := hl
  unfold s_X10_outcome at hE
  obtain ⟨G0, eG0, hG0, hE⟩ := j_F0o hE
  refine lv_aload_n hx hb dX10_outcome_0 rfl (lv_at hl 0 rfl) ?_
  refine jg_10_56 jc jw ho wd_6_115 dX10_outcome_1 ?_
  have B11 : ∀ (H : Heap) (locs : List Loc), JW D Y ty ad A s.heap M H locs → ((j_z (M o 56)) = 0 ∨ (s_X10_in Y M p1 (0 : Int32) ((M o 53) - (1 : Int32))) = 0) → W p l e R s m args below meth c H locs 0 0 Q (F0 m 21 ls []) := by
    intro H locs jw hcc
    rw [if_pos hcc] at hE
    refine lv_aload_n hx hb dX10_outcome_21 rfl (lv_at hl 0 rfl) ?_
    refine lv_iconst (v := 1) hx hb dX10_outcome_22 (by decide) ?_
    obtain ⟨xx4, exx4, hE⟩ := j_lv hE
    try dsimp only at hE
    refine jc_vi [.int (1 : Int32)] [] jc jw hA ho (by decide) rfl (c_X10_fails hY ho (M := M) exx4.symm) sd_X10_130 rfl hl.1 (j_hR hRf hRl rfl rfl) (Nat.le_of_ble_eq_true rfl) dX10_outcome_23 (fun H locs jw => ?_)
    exact kr _ _ _ _ _ _ (congrArg Prod.fst (Option.some.inj (j_ret eG0 hE))) (congrArg Prod.snd (Option.some.inj (j_ret eG0 hE))) jw dX10_outcome_26
  refine lv_if_eq (tgt := 21) hx hb dX10_outcome_4 (by decide) (fun c1 => B11 _ _ jw (Or.inl c1)) (fun c1 => ?_)
  refine lv_iload_n hx hb dX10_outcome_7 rfl (lv_at hl 1 rfl) ?_
  refine lv_iconst (v := 0) hx hb dX10_outcome_8 (by decide) ?_
  refine lv_aload_n hx hb dX10_outcome_9 rfl (lv_at hl 0 rfl) ?_
  refine jg_10_53 jc jw ho wd_6_112 dX10_outcome_10 ?_
  refine lv_iconst (v := 1) hx hb dX10_outcome_13 (by decide) ?_
  refine lv_isub hx hb dX10_outcome_14 ?_
  refine jc_sz [.int p1, .int (0 : Int32), .int ((M o 53) - (1 : Int32))] [] jc jw hA (c_X10_in hY  (M := M) rfl) sd_X10_119 rfl hl.1 (j_hR hRf hRl rfl rfl) (Nat.le_of_ble_eq_true rfl) dX10_outcome_15 (fun H locs jw hz => ?_)
  have z_2 := hz
  refine lv_if_ne (tgt := 27) hx hb dX10_outcome_18 (by decide) (fun c3 => ?_) (fun c3 => B11 _ _ jw (Or.inr c3))
  rw [if_neg (fun hq => hq.elim (fun hq => (j_abs c1 hq)) (fun hq => (j_abs c3 hq)))] at hE
  refine lv_iload_n hx hb dX10_outcome_27 rfl (lv_at hl 2 rfl) ?_
  refine lv_iconst (v := 0) hx hb dX10_outcome_28 (by decide) ?_
  refine lv_iconst (v := 1) hx hb dX10_outcome_29 (by decide) ?_
  refine jc_sz [.int p2, .int (0 : Int32), .int (1 : Int32)] [] jc jw hA (c_X10_in hY  (M := M) rfl) sd_X10_119 rfl hl.1 (j_hR hRf hRl rfl rfl) (Nat.le_of_ble_eq_true rfl) dX10_outcome_30 (fun H locs jw hz => ?_)
  have z_5 := hz
  refine lv_if_eq (tgt := 53) hx hb dX10_outcome_33 (by decide) (fun c6 => ?_) (fun c6 => ?_)
  · rw [if_pos c6] at hE
    refine lv_aload_n hx hb dX10_outcome_53 rfl (lv_at hl 0 rfl) ?_
    refine lv_iconst (v := 2) hx hb dX10_outcome_54 (by decide) ?_
    obtain ⟨xx7, exx7, hE⟩ := j_lv hE
    try dsimp only at hE
    refine jc_vi [.int (2 : Int32)] [] jc jw hA ho (by decide) rfl (c_X10_fails hY ho (M := M) exx7.symm) sd_X10_130 rfl hl.1 (j_hR hRf hRl rfl rfl) (Nat.le_of_ble_eq_true rfl) dX10_outcome_55 (fun H locs jw => ?_)
    exact kr _ _ _ _ _ _ (congrArg Prod.fst (Option.some.inj (j_ret eG0 hE))) (congrArg Prod.snd (Option.some.inj (j_ret eG0 hE))) jw dX10_outcome_58
  · rw [if_neg c6] at hE
    refine lv_aload_n hx hb dX10_outcome_36 rfl (lv_at hl 0 rfl) ?_
    refine lv_aload_n hx hb dX10_outcome_37 rfl (lv_at hl 0 rfl) ?_
    refine jg_10_57 jc jw ho wd_6_116 dX10_outcome_38 ?_
    have k8 := j_sub hY ho 57 (f := 100) rfl (by decide) (by decide) (by decide)
    refine lv_iconst (v := 2) hx hb dX10_outcome_41 (by decide) ?_
    refine lv_iload_n hx hb dX10_outcome_42 rfl (lv_at hl 1 rfl) ?_
    refine lv_imul hx hb dX10_outcome_43 ?_
    refine lv_iload_n hx hb dX10_outcome_44 rfl (lv_at hl 2 rfl) ?_
    refine lv_iadd hx hb dX10_outcome_45 ?_
    rcases Classical.em (j_g (((2 : Int32) * p1) + p2) (j_ln Y (j_rf Y o 57))) with g9 | g9
    case inr => rw [if_neg g9] at hE; exact absurd hE (hG0 _)
    rw [if_pos g9] at hE
    refine jr_iald jc jw k8 (j_g_in g9) dX10_outcome_46 ?_
    obtain ⟨xx10, exx10, hE⟩ := j_lv hE
    try dsimp only at hE
    refine jc_vi [.int (M (j_rf Y o 57) (((2 : Int32) * p1) + p2).toNatClampNeg)] [] jc jw hA ho (by decide) rfl (c_X10_done hY ho (M := M) exx10.symm) sd_X10_138 rfl hl.1 (j_hR hRf hRl rfl rfl) (Nat.le_of_ble_eq_true rfl) dX10_outcome_47 (fun H locs jw => ?_)
    refine lv_goto (tgt := 58) hx hb dX10_outcome_50 (by decide) ?_
    exact kr _ _ _ _ _ _ (congrArg Prod.fst (Option.some.inj (j_ret eG0 hE))) (congrArg Prod.snd (Option.some.inj (j_ret eG0 hE))) jw dX10_outcome_58

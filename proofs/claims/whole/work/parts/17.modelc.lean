def lp_X10_aligns_3 (Y : JY) (p2 : Int32) (o : Nat) (q1 : Nat) (q3 : Nat) (q5 : Nat) (n : Nat) (vv23 : Int32) (vv24 : Int32) (vv25 : Int32) (vv26 : Int32) (mm27 : JM) : Option (Int32 × Int32 × JM) := match n with
  | 0 => none
  | n + 1 => if p2 ≤ vv26 then (some (vv23, vv24, mm27)) else ((if vv25 ≤ 0 then (some (vv23, vv24, vv25, mm27)) else (if j_g vv26 (j_ln Y (j_rf Y o 21)) then (if (mm27 (j_rf Y o 21) vv26.toNatClampNeg) = vv25 then (if j_g vv26 (j_ln Y (j_rf Y o 20)) then (if (mm27 (j_rf Y o 20) vv26.toNatClampNeg) < vv24 then (some (vv23, vv24, vv25, mm27)) else (if j_g vv26 (j_ln Y (j_rf Y o 20)) then ((s_X10_pairs Y mm27 o q1 q3 vv23 vv26 vv24 (mm27 (j_rf Y o 20) vv26.toNatClampNeg) q5).bind fun xx38 => if j_g vv26 (j_ln Y (j_rf Y o 20)) then (if j_g vv26 (j_ln Y q5) then (lt_ (j_up xx38 q5 vv26.toNatClampNeg (xx38 (j_rf Y o 20) vv26.toNatClampNeg)) fun mm41 => lt_ (vv26 + (1 : Int32)) fun vv42 => if j_g vv26 (j_ln Y (j_rf Y o 20)) then (lt_ ((mm41 (j_rf Y o 20) vv26.toNatClampNeg) + (1 : Int32)) fun vv44 => lt_ (vv25 + (-1 : Int32)) fun vv45 => lt_ (j_up mm41 o 22 ((mm41 o 22) + (1 : Int32))) fun mm46 => some (vv42, vv44, vv45, mm46)) else none) else none) else none) else none)) else none) else (some (vv23, vv24, vv25, mm27))) else none)).bind fun xx52 => lt_ (vv26 + (1 : Int32)) fun vv51 => lp_X10_aligns_3 Y p2 o q1 q3 q5 n xx52.1 xx52.2.1 xx52.2.2.1 vv51 xx52.2.2.2)
def lp_X10_aligns_2 (Y : JY) (p2 : Int32) (o : Nat) (xx12 : JM) (n : Nat) (vv14 : Int32) (vv15 : Int32) : Option (Int32) := match n with
  | 0 => none
  | n + 1 => if p2 ≤ vv15 then (some vv14) else (if j_g vv15 (j_ln Y (j_rf Y o 21)) then (lt_ (s_X10_most Y xx12 vv14 (xx12 (j_rf Y o 21) vv15.toNatClampNeg)) fun vv19 => lt_ (vv15 + (1 : Int32)) fun vv20 => lp_X10_aligns_2 Y p2 o xx12 n vv19 vv20) else none)
def lp_X10_aligns_1 (Y : JY) (q5 : Nat) (n : Nat) (vv2 : Int32) (mm3 : JM) : Option (JM) := match n with
  | 0 => none
  | n + 1 => if (24 : Int32) ≤ vv2 then (some mm3) else (if j_g vv2 (j_ln Y q5) then (lt_ (j_up mm3 q5 vv2.toNatClampNeg (-1 : Int32)) fun mm6 => lt_ (vv2 + (1 : Int32)) fun vv7 => lp_X10_aligns_1 Y q5 n vv7 mm6) else none)
def s_X10_aligns (Y : JY) (M : JM) (o : Nat) (q1 : Nat) (p2 : Int32) (q3 : Nat) (p4 : Int32) (q5 : Nat) : Option (JM) := (lp_X10_aligns_1 Y q5 j_fuel (0 : Int32) M).bind fun xx63 => lt_ (j_up xx63 o 22 (0 : Int32)) fun mm9 => (if (mm9 o 3) = (1 : Int32) then ((s_X10_tellCandidates Y mm9 o q1 p2 q3 p4).bind fun xx12 => (lp_X10_aligns_2 Y p2 o xx12 j_fuel (0 : Int32) (0 : Int32)).bind fun xx57 => (lp_X10_aligns_3 Y p2 o q1 q3 q5 j_fuel (0 : Int32) (0 : Int32) xx57 (0 : Int32) xx12).bind fun xx56 => some (xx56.1, xx56.2.1, xx56.2.2)) else (some ((0 : Int32), (0 : Int32), mm9))).bind fun xx62 => (s_X10_pairs Y xx62.2.2 o q1 q3 xx62.1 p2 xx62.2.1 p4 q5).bind fun xx61 => some xx61
set_option maxRecDepth 100000 in
set_option maxHeartbeats 4000000 in
theorem c_X10_aligns {D : va_G} {Y : JY} {ty : Nat → ClassId} {ad : Nat → Nat} {sz : Nat} {l : Launch} {M : JM} (hY : j_ok Y) {o : Nat} {q1 : Nat} {p2 : Int32} {q3 : Nat} {p4 : Int32} {q5 : Nat} (ho : j_kd Y o = 10) (hq1 : j_kd Y q1 = 100) (hq3 : j_kd Y q3 = 100) (hq5 : j_kd Y q5 = 100) {r : JM} (hE : s_X10_aligns Y M o q1 p2 q3 p4 q5 = some r) : JMv D Y ty ad sz l yX10_aligns cX10_aligns 10 3 82 [.ref (ad o), .ref (ad q1), .int p2, .ref (ad q3), .int p4, .ref (ad q5)] M r := by
  refine j_ofV hY (by decide +kernel) (Nat.le_of_ble_eq_true rfl) (fun p e s m below meth c args R Q A hRf hRl hA jc jw kr ls hl => ?_)
  have hx := jc.1
  have hb := jc.2.1
  have hl : lv_has ls 10 [(0, .ref (ad o)), (1, .ref (ad q1)), (2, .int p2), (3, .ref (ad q3)), (4, .int p4), (5, .ref (ad q5))] := hl
  unfold s_X10_aligns at hE
  obtain ⟨G0, eG0, hG0, hE⟩ := j_F0o hE
  refine lv_iconst (v := 0) hx hb dX10_aligns_0 (by decide) ?_
  refine lv_istore (lv' := [(6, .int (0 : Int32)), (0, .ref (ad o)), (1, .ref (ad q1)), (2, .int p2), (3, .ref (ad q3)), (4, .int p4), (5, .ref (ad q5))]) hx hb dX10_aligns_1 hl (by decide) rfl (fun ls hl => ?_)
  obtain ⟨G1, eG1, hG1, hE⟩ := j_ctxB hG0 hE
  have E1_22 : ∀ (mm8 : JM)  (H : Heap) (locs : List Loc) (ls : Array Slot), G1 (some mm8) = some r → JW D Y ty ad A s.heap mm8 H locs → lv_has ls 10 [(0, .ref (ad o)), (1, .ref (ad q1)), (2, .int p2), (3, .ref (ad q3)), (4, .int p4), (5, .ref (ad q5))] → W p l e R s m args below meth c H locs 0 0 Q (F0 m 22 ls []) := by
    intro mm8  H locs ls hE jw hl
    replace hE := j_popB eG1 hE
    try dsimp only at hE
    refine lv_aload_n hx hb dX10_aligns_22 rfl (lv_at hl 0 rfl) ?_
    refine lv_iconst (v := 0) hx hb dX10_aligns_23 (by decide) ?_
    refine js_10_22 jc jw ho wd_6_81 dX10_aligns_24 (fun H locs jw => ?_)
    obtain ⟨mm9, emm9, hE⟩ := j_lv hE
    rw [← emm9] at jw
    try dsimp only at hE
    refine lv_iconst (v := 0) hx hb dX10_aligns_27 (by decide) ?_
    refine lv_istore (lv' := [(6, .int (0 : Int32)), (0, .ref (ad o)), (1, .ref (ad q1)), (2, .int p2), (3, .ref (ad q3)), (4, .int p4), (5, .ref (ad q5))]) hx hb dX10_aligns_28 hl (by decide) rfl (fun ls hl => ?_)
    refine lv_iconst (v := 0) hx hb dX10_aligns_30 (by decide) ?_
    refine lv_istore (lv' := [(7, .int (0 : Int32)), (6, .int (0 : Int32)), (0, .ref (ad o)), (1, .ref (ad q1)), (2, .int p2), (3, .ref (ad q3)), (4, .int p4), (5, .ref (ad q5))]) hx hb dX10_aligns_31 hl (by decide) rfl (fun ls hl => ?_)
    refine lv_aload_n hx hb dX10_aligns_33 rfl (lv_at hl 2 rfl) ?_
    refine jg_10_3 jc jw ho wd_6_62 dX10_aligns_34 ?_
    refine lv_iconst (v := 1) hx hb dX10_aligns_37 (by decide) ?_
    obtain ⟨G11, eG11, hG11, hE⟩ := j_ctxB hG0 hE
    have J11 : ∀ (vv58 : Int32) (vv59 : Int32) (mm60 : JM)  (H : Heap) (locs : List Loc) (ls : Array Slot), G11 (some (vv58, vv59, mm60)) = some r → JW D Y ty ad A s.heap mm60 H locs → lv_has ls 10 [(7, .int vv59), (6, .int vv58), (0, .ref (ad o)), (1, .ref (ad q1)), (2, .int p2), (3, .ref (ad q3)), (4, .int p4), (5, .ref (ad q5))] → W p l e R s m args below meth c H locs 0 0 Q (F0 m 189 ls []) := by
      intro vv58 vv59 mm60  H locs ls hE jw hl
      replace hE := j_popB eG11 hE
      try dsimp only at hE
      refine lv_aload_n hx hb dX10_aligns_189 rfl (lv_at hl 2 rfl) ?_
      refine lv_aload_n hx hb dX10_aligns_190 rfl (lv_at hl 3 rfl) ?_
      refine lv_aload_n hx hb dX10_aligns_191 rfl (lv_at hl 5 rfl) ?_
      refine lv_iload hx hb dX10_aligns_192 (lv_at hl 1 rfl) ?_
      refine lv_iload_n hx hb dX10_aligns_194 rfl (lv_at hl 4 rfl) ?_
      refine lv_iload hx hb dX10_aligns_195 (lv_at hl 0 rfl) ?_
      refine lv_iload hx hb dX10_aligns_197 (lv_at hl 6 rfl) ?_
      refine lv_aload hx hb dX10_aligns_199 (lv_at hl 7 rfl) ?_
      obtain ⟨xx61, exx61, hE⟩ := j_bd hG0 hE
      try dsimp only at hE
      refine jc_vv [.ref (ad q1), .ref (ad q3), .int vv58, .int p2, .int vv59, .int p4, .ref (ad q5)] [] jc jw hA ho (by decide) rfl (c_X10_pairs hY ho hq1 hq3 hq5 (M := mm60) exx61) sd_X10_203 rfl hl.1 (j_hR hRf hRl rfl rfl) (Nat.le_of_ble_eq_true rfl) dX10_aligns_201 (fun H locs jw => ?_)
      exact kr _ _ _ _ _ (Option.some.inj (j_ret eG0 hE)) jw dX10_aligns_204
    refine lv_icmp_ne (tgt := 189) hx hb dX10_aligns_38 (by decide) (fun c10 => ?_) (fun c10 => ?_)
    · rw [if_neg c10] at hE
      exact J11 (0 : Int32) (0 : Int32) mm9  H locs ls hE jw (lv_sub hl [0, 1, 2, 3, 4, 5, 6, 7] rfl)
    · rw [if_pos c10] at hE
      refine lv_aload_n hx hb dX10_aligns_41 rfl (lv_at hl 2 rfl) ?_
      refine lv_aload_n hx hb dX10_aligns_42 rfl (lv_at hl 3 rfl) ?_
      refine lv_iload_n hx hb dX10_aligns_43 rfl (lv_at hl 4 rfl) ?_
      refine lv_aload_n hx hb dX10_aligns_44 rfl (lv_at hl 5 rfl) ?_
      refine lv_iload hx hb dX10_aligns_45 (lv_at hl 6 rfl) ?_
      obtain ⟨xx12, exx12, hE⟩ := j_bd hG11 hE
      try dsimp only at hE
      refine jc_vv [.ref (ad q1), .int p2, .ref (ad q3), .int p4] [] jc jw hA ho (by decide) rfl (c_X10_tellCandidates hY ho hq1 hq3 (M := mm9) exx12) sd_X10_199 rfl hl.1 (j_hR hRf hRl rfl rfl) (Nat.le_of_ble_eq_true rfl) dX10_aligns_47 (fun H locs jw => ?_)
      refine lv_iconst (v := 0) hx hb dX10_aligns_50 (by decide) ?_
      refine lv_istore (lv' := [(8, .int (0 : Int32)), (7, .int (0 : Int32)), (6, .int (0 : Int32)), (0, .ref (ad o)), (1, .ref (ad q1)), (2, .int p2), (3, .ref (ad q3)), (4, .int p4), (5, .ref (ad q5))]) hx hb dX10_aligns_51 hl (by decide) rfl (fun ls hl => ?_)
      refine lv_iconst (v := 0) hx hb dX10_aligns_53 (by decide) ?_
      refine lv_istore (lv' := [(9, .int (0 : Int32)), (8, .int (0 : Int32)), (7, .int (0 : Int32)), (6, .int (0 : Int32)), (0, .ref (ad o)), (1, .ref (ad q1)), (2, .int p2), (3, .ref (ad q3)), (4, .int p4), (5, .ref (ad q5))]) hx hb dX10_aligns_54 hl (by decide) rfl (fun ls hl => ?_)
      obtain ⟨G13, eG13, hG13, hE⟩ := j_ctxB hG11 hE
      have E13_82 : ∀ (vv21 : Int32)  (H : Heap) (locs : List Loc) (ls : Array Slot), G13 (some vv21) = some r → JW D Y ty ad A s.heap xx12 H locs → lv_has ls 10 [(8, .int vv21), (7, .int (0 : Int32)), (6, .int (0 : Int32)), (0, .ref (ad o)), (1, .ref (ad q1)), (2, .int p2), (3, .ref (ad q3)), (4, .int p4), (5, .ref (ad q5))] → W p l e R s m args below meth c H locs 0 0 Q (F0 m 82 ls []) := by
        intro vv21  H locs ls hE jw hl
        replace hE := j_popB eG13 hE
        try dsimp only at hE
        refine lv_iconst (v := 0) hx hb dX10_aligns_82 (by decide) ?_
        refine lv_istore (lv' := [(9, .int (0 : Int32)), (8, .int vv21), (7, .int (0 : Int32)), (6, .int (0 : Int32)), (0, .ref (ad o)), (1, .ref (ad q1)), (2, .int p2), (3, .ref (ad q3)), (4, .int p4), (5, .ref (ad q5))]) hx hb dX10_aligns_83 hl (by decide) rfl (fun ls hl => ?_)
        obtain ⟨G22, eG22, hG22, hE⟩ := j_ctxB hG11 hE
        have E22_189 : ∀ (vv53 : Int32) (vv54 : Int32) (mm55 : JM)  (H : Heap) (locs : List Loc) (ls : Array Slot), G22 (some (vv53, vv54, mm55)) = some r → JW D Y ty ad A s.heap mm55 H locs → lv_has ls 10 [(7, .int vv54), (6, .int vv53), (0, .ref (ad o)), (1, .ref (ad q1)), (2, .int p2), (3, .ref (ad q3)), (4, .int p4), (5, .ref (ad q5))] → W p l e R s m args below meth c H locs 0 0 Q (F0 m 189 ls []) := by
          intro vv53 vv54 mm55  H locs ls hE jw hl
          replace hE := j_popB eG22 hE
          try dsimp only at hE
          exact J11 vv53 vv54 mm55  H locs ls hE jw (lv_sub hl [0, 1, 2, 3, 4, 5, 6, 7] rfl)
        have LP22 : ∀ (n : Nat) (vv23 : Int32) (vv24 : Int32) (vv25 : Int32) (vv26 : Int32) (mm27 : JM) (H : Heap) (locs : List Loc) (ls : Array Slot), G22 (lp_X10_aligns_3 Y p2 o q1 q3 q5 n vv23 vv24 vv25 vv26 mm27) = some r → JW D Y ty ad A s.heap mm27 H locs → lv_has ls 10 [(9, .int vv26), (8, .int vv25), (7, .int vv24), (6, .int vv23), (0, .ref (ad o)), (1, .ref (ad q1)), (2, .int p2), (3, .ref (ad q3)), (4, .int p4), (5, .ref (ad q5))] → W p l e R s m args below meth c H locs 0 0 Q (F0 m 85 ls []) := by
          intro n
          induction n with
          | zero => intro vv23 vv24 vv25 vv26 mm27 H locs ls hE jw hl; exact absurd hE (hG22 _)
          | succ n ih =>
            intro vv23 vv24 vv25 vv26 mm27 H locs ls hE jw hl
            rw [lp_X10_aligns_3] at hE
            refine lv_iload hx hb dX10_aligns_85 (lv_at hl 0 rfl) ?_
            refine lv_iload_n hx hb dX10_aligns_87 rfl (lv_at hl 6 rfl) ?_
            refine lv_icmp_ge (tgt := 189) hx hb dX10_aligns_88 (by decide) (fun c28 => ?_) (fun c28 => ?_)
            · rw [if_pos c28] at hE
              exact E22_189 vv23 vv24 mm27  H locs ls hE jw (lv_sub hl [2, 3, 4, 5, 6, 7, 8, 9] rfl)
            · rw [if_neg c28] at hE
              refine lv_iload hx hb dX10_aligns_91 (lv_at hl 1 rfl) ?_
              obtain ⟨G30, eG30, hG30, hE⟩ := j_ctxB hG22 hE
              have J30 : ∀ (vv47 : Int32) (vv48 : Int32) (vv49 : Int32) (mm50 : JM)  (H : Heap) (locs : List Loc) (ls : Array Slot), G30 (some (vv47, vv48, vv49, mm50)) = some r → JW D Y ty ad A s.heap mm50 H locs → lv_has ls 10 [(9, .int vv26), (8, .int vv49), (7, .int vv48), (6, .int vv47), (0, .ref (ad o)), (1, .ref (ad q1)), (2, .int p2), (3, .ref (ad q3)), (4, .int p4), (5, .ref (ad q5))] → W p l e R s m args below meth c H locs 0 0 Q (F0 m 183 ls []) := by
                intro vv47 vv48 vv49 mm50  H locs ls hE jw hl
                replace hE := j_popB eG30 hE
                try dsimp only at hE
                obtain ⟨vv51, evv51, hE⟩ := j_lv hE
                try dsimp only at hE
                refine lv_iinc (v := vv51) (lv' := [(9, .int vv51), (8, .int vv49), (7, .int vv48), (6, .int vv47), (0, .ref (ad o)), (1, .ref (ad q1)), (2, .int p2), (3, .ref (ad q3)), (4, .int p4), (5, .ref (ad q5))]) hx hb dX10_aligns_183 hl (k := 0) rfl (by rw [evv51]; rfl) (by decide) rfl (fun ls hl => ?_)
                refine lv_goto (tgt := 85) hx hb dX10_aligns_186 (by decide) ?_
                exact ih vv47 vv48 vv49 vv51 mm50 H locs ls hE jw (lv_sub hl [0, 1, 2, 3, 4, 5, 6, 7, 8, 9] rfl)
              refine lv_if_le (tgt := 183) hx hb dX10_aligns_93 (by decide) (fun c29 => ?_) (fun c29 => ?_)
              · rw [if_pos c29] at hE
                exact J30 vv23 vv24 vv25 mm27  H locs ls hE jw (lv_sub hl [0, 1, 2, 3, 4, 5, 6, 7, 8, 9] rfl)
              · rw [if_neg c29] at hE
                refine lv_aload_n hx hb dX10_aligns_96 rfl (lv_at hl 4 rfl) ?_
                refine jg_10_21 jc jw ho wd_6_80 dX10_aligns_97 ?_
                have k31 := j_sub hY ho 21 (f := 100) rfl (by decide) (by decide) (by decide)
                refine lv_iload hx hb dX10_aligns_100 (lv_at hl 0 rfl) ?_
                rcases Classical.em (j_g vv26 (j_ln Y (j_rf Y o 21))) with g32 | g32
                case inr => rw [if_neg g32] at hE; exact absurd hE (hG30 _)
                rw [if_pos g32] at hE
                refine jr_iald jc jw k31 (j_g_in g32) dX10_aligns_102 ?_
                refine lv_iload hx hb dX10_aligns_103 (lv_at hl 1 rfl) ?_
                refine lv_icmp_ne (tgt := 183) hx hb dX10_aligns_105 (by decide) (fun c33 => ?_) (fun c33 => ?_)
                · rw [if_neg c33] at hE
                  exact J30 vv23 vv24 vv25 mm27  H locs ls hE jw (lv_sub hl [0, 1, 2, 3, 4, 5, 6, 7, 8, 9] rfl)
                · rw [if_pos c33] at hE
                  refine lv_aload_n hx hb dX10_aligns_108 rfl (lv_at hl 4 rfl) ?_
                  refine jg_10_20 jc jw ho wd_6_79 dX10_aligns_109 ?_
                  have k34 := j_sub hY ho 20 (f := 100) rfl (by decide) (by decide) (by decide)
                  refine lv_iload hx hb dX10_aligns_112 (lv_at hl 0 rfl) ?_
                  rcases Classical.em (j_g vv26 (j_ln Y (j_rf Y o 20))) with g35 | g35
                  case inr => rw [if_neg g35] at hE; exact absurd hE (hG30 _)
                  rw [if_pos g35] at hE
                  refine jr_iald jc jw k34 (j_g_in g35) dX10_aligns_114 ?_
                  refine lv_iload hx hb dX10_aligns_115 (lv_at hl 2 rfl) ?_
                  refine lv_icmp_lt (tgt := 183) hx hb dX10_aligns_117 (by decide) (fun c36 => ?_) (fun c36 => ?_)
                  · rw [if_pos c36] at hE
                    exact J30 vv23 vv24 vv25 mm27  H locs ls hE jw (lv_sub hl [0, 1, 2, 3, 4, 5, 6, 7, 8, 9] rfl)
                  · rw [if_neg c36] at hE
                    refine lv_aload_n hx hb dX10_aligns_120 rfl (lv_at hl 4 rfl) ?_
                    refine lv_aload_n hx hb dX10_aligns_121 rfl (lv_at hl 5 rfl) ?_
                    refine lv_aload_n hx hb dX10_aligns_122 rfl (lv_at hl 7 rfl) ?_
                    refine lv_iload hx hb dX10_aligns_123 (lv_at hl 3 rfl) ?_
                    refine lv_iload hx hb dX10_aligns_125 (lv_at hl 0 rfl) ?_
                    refine lv_iload hx hb dX10_aligns_127 (lv_at hl 2 rfl) ?_
                    refine lv_aload_n hx hb dX10_aligns_129 rfl (lv_at hl 4 rfl) ?_
                    refine jg_10_20 jc jw ho wd_6_79 dX10_aligns_130 ?_
                    refine lv_iload hx hb dX10_aligns_133 (lv_at hl 0 rfl) ?_
                    rcases Classical.em (j_g vv26 (j_ln Y (j_rf Y o 20))) with g37 | g37
                    case inr => rw [if_neg g37] at hE; exact absurd hE (hG30 _)
                    rw [if_pos g37] at hE
                    refine jr_iald jc jw k34 (j_g_in g37) dX10_aligns_135 ?_
                    refine lv_aload hx hb dX10_aligns_136 (lv_at hl 9 rfl) ?_
                    obtain ⟨xx38, exx38, hE⟩ := j_bd hG30 hE
                    try dsimp only at hE
                    refine jc_vv [.ref (ad q1), .ref (ad q3), .int vv23, .int vv26, .int vv24, .int (mm27 (j_rf Y o 20) vv26.toNatClampNeg), .ref (ad q5)] [] jc jw hA ho (by decide) rfl (c_X10_pairs hY ho hq1 hq3 hq5 (M := mm27) exx38) sd_X10_203 rfl hl.1 (j_hR hRf hRl rfl rfl) (Nat.le_of_ble_eq_true rfl) dX10_aligns_138 (fun H locs jw => ?_)
                    refine lv_aload hx hb dX10_aligns_141 (lv_at hl 9 rfl) ?_
                    refine lv_iload hx hb dX10_aligns_143 (lv_at hl 0 rfl) ?_
                    refine lv_aload_n hx hb dX10_aligns_145 rfl (lv_at hl 4 rfl) ?_
                    refine jg_10_20 jc jw ho wd_6_79 dX10_aligns_146 ?_
                    refine lv_iload hx hb dX10_aligns_149 (lv_at hl 0 rfl) ?_
                    rcases Classical.em (j_g vv26 (j_ln Y (j_rf Y o 20))) with g39 | g39
                    case inr => rw [if_neg g39] at hE; exact absurd hE (hG30 _)
                    rw [if_pos g39] at hE
                    refine jr_iald jc jw k34 (j_g_in g39) dX10_aligns_151 ?_
                    rcases Classical.em (j_g vv26 (j_ln Y q5)) with g40 | g40
                    case inr => rw [if_neg g40] at hE; exact absurd hE (hG30 _)
                    rw [if_pos g40] at hE
                    refine jr_iast jc jw hq5 (j_g_in g40) dX10_aligns_152 (fun H locs jw => ?_)
                    obtain ⟨mm41, emm41, hE⟩ := j_lv hE
                    rw [← emm41] at jw
                    try dsimp only at hE
                    refine lv_iload hx hb dX10_aligns_153 (lv_at hl 0 rfl) ?_
                    refine lv_iconst (v := 1) hx hb dX10_aligns_155 (by decide) ?_
                    refine lv_iadd hx hb dX10_aligns_156 ?_
                    refine lv_topi (fun vv42 evv42 => ?_)
                    replace hE := j_lu hE evv42
                    try dsimp only at hE
                    refine lv_istore (lv' := [(6, .int vv42), (9, .int vv26), (8, .int vv25), (7, .int vv24), (0, .ref (ad o)), (1, .ref (ad q1)), (2, .int p2), (3, .ref (ad q3)), (4, .int p4), (5, .ref (ad q5))]) hx hb dX10_aligns_157 hl (by decide) rfl (fun ls hl => ?_)
                    refine lv_aload_n hx hb dX10_aligns_159 rfl (lv_at hl 4 rfl) ?_
                    refine jg_10_20 jc jw ho wd_6_79 dX10_aligns_160 ?_
                    refine lv_iload hx hb dX10_aligns_163 (lv_at hl 1 rfl) ?_
                    rcases Classical.em (j_g vv26 (j_ln Y (j_rf Y o 20))) with g43 | g43
                    case inr => rw [if_neg g43] at hE; exact absurd hE (hG30 _)
                    rw [if_pos g43] at hE
                    refine jr_iald jc jw k34 (j_g_in g43) dX10_aligns_165 ?_
                    refine lv_iconst (v := 1) hx hb dX10_aligns_166 (by decide) ?_
                    refine lv_iadd hx hb dX10_aligns_167 ?_
                    refine lv_topi (fun vv44 evv44 => ?_)
                    replace hE := j_lu hE evv44
                    try dsimp only at hE
                    refine lv_istore (lv' := [(7, .int vv44), (6, .int vv42), (9, .int vv26), (8, .int vv25), (0, .ref (ad o)), (1, .ref (ad q1)), (2, .int p2), (3, .ref (ad q3)), (4, .int p4), (5, .ref (ad q5))]) hx hb dX10_aligns_168 hl (by decide) rfl (fun ls hl => ?_)
                    obtain ⟨vv45, evv45, hE⟩ := j_lv hE
                    try dsimp only at hE
                    refine lv_iinc (v := vv45) (lv' := [(8, .int vv45), (7, .int vv44), (6, .int vv42), (9, .int vv26), (0, .ref (ad o)), (1, .ref (ad q1)), (2, .int p2), (3, .ref (ad q3)), (4, .int p4), (5, .ref (ad q5))]) hx hb dX10_aligns_170 hl (k := 3) rfl (by rw [evv45]; rfl) (by decide) rfl (fun ls hl => ?_)
                    refine lv_aload_n hx hb dX10_aligns_173 rfl (lv_at hl 4 rfl) ?_
                    refine lv_dup hx hb dX10_aligns_174 rfl ?_
                    refine jg_10_22 jc jw ho wd_6_81 dX10_aligns_175 ?_
                    refine lv_iconst (v := 1) hx hb dX10_aligns_178 (by decide) ?_
                    refine lv_iadd hx hb dX10_aligns_179 ?_
                    refine js_10_22 jc jw ho wd_6_81 dX10_aligns_180 (fun H locs jw => ?_)
                    obtain ⟨mm46, emm46, hE⟩ := j_lv hE
                    rw [← emm46] at jw
                    try dsimp only at hE
                    exact J30 vv42 vv44 vv45 mm46  H locs ls hE jw (lv_sub hl [3, 0, 1, 2, 4, 5, 6, 7, 8, 9] rfl)
        exact LP22 j_fuel (0 : Int32) (0 : Int32) vv21 (0 : Int32) xx12 H locs ls hE jw (lv_sub hl [0, 1, 2, 3, 4, 5, 6, 7, 8, 9] rfl)
      have LP13 : ∀ (n : Nat) (vv14 : Int32) (vv15 : Int32) (H : Heap) (locs : List Loc) (ls : Array Slot), G13 (lp_X10_aligns_2 Y p2 o xx12 n vv14 vv15) = some r → JW D Y ty ad A s.heap xx12 H locs → lv_has ls 10 [(9, .int vv15), (8, .int vv14), (7, .int (0 : Int32)), (6, .int (0 : Int32)), (0, .ref (ad o)), (1, .ref (ad q1)), (2, .int p2), (3, .ref (ad q3)), (4, .int p4), (5, .ref (ad q5))] → W p l e R s m args below meth c H locs 0 0 Q (F0 m 56 ls []) := by
        intro n
        induction n with
        | zero => intro vv14 vv15 H locs ls hE jw hl; exact absurd hE (hG13 _)
        | succ n ih =>
          intro vv14 vv15 H locs ls hE jw hl
          rw [lp_X10_aligns_2] at hE
          refine lv_iload hx hb dX10_aligns_56 (lv_at hl 0 rfl) ?_
          refine lv_iload_n hx hb dX10_aligns_58 rfl (lv_at hl 6 rfl) ?_
          refine lv_icmp_ge (tgt := 82) hx hb dX10_aligns_59 (by decide) (fun c16 => ?_) (fun c16 => ?_)
          · rw [if_pos c16] at hE
            exact E13_82 vv14  H locs ls hE jw (lv_sub hl [1, 2, 3, 4, 5, 6, 7, 8, 9] rfl)
          · rw [if_neg c16] at hE
            refine lv_iload hx hb dX10_aligns_62 (lv_at hl 1 rfl) ?_
            refine lv_aload_n hx hb dX10_aligns_64 rfl (lv_at hl 4 rfl) ?_
            refine jg_10_21 jc jw ho wd_6_80 dX10_aligns_65 ?_
            have k17 := j_sub hY ho 21 (f := 100) rfl (by decide) (by decide) (by decide)
            refine lv_iload hx hb dX10_aligns_68 (lv_at hl 0 rfl) ?_
            rcases Classical.em (j_g vv15 (j_ln Y (j_rf Y o 21))) with g18 | g18
            case inr => rw [if_neg g18] at hE; exact absurd hE (hG13 _)
            rw [if_pos g18] at hE
            refine jr_iald jc jw k17 (j_g_in g18) dX10_aligns_70 ?_
            refine jc_si [.int vv14, .int (xx12 (j_rf Y o 21) vv15.toNatClampNeg)] [] jc jw hA (c_X10_most hY  (M := xx12) rfl) sd_X10_182 rfl hl.1 (j_hR hRf hRl rfl rfl) (Nat.le_of_ble_eq_true rfl) dX10_aligns_71 (fun H locs jw => ?_)
            refine lv_topi (fun vv19 evv19 => ?_)
            replace hE := j_lu hE evv19
            try dsimp only at hE
            refine lv_istore (lv' := [(8, .int vv19), (9, .int vv15), (7, .int (0 : Int32)), (6, .int (0 : Int32)), (0, .ref (ad o)), (1, .ref (ad q1)), (2, .int p2), (3, .ref (ad q3)), (4, .int p4), (5, .ref (ad q5))]) hx hb dX10_aligns_74 hl (by decide) rfl (fun ls hl => ?_)
            obtain ⟨vv20, evv20, hE⟩ := j_lv hE
            try dsimp only at hE
            refine lv_iinc (v := vv20) (lv' := [(9, .int vv20), (8, .int vv19), (7, .int (0 : Int32)), (6, .int (0 : Int32)), (0, .ref (ad o)), (1, .ref (ad q1)), (2, .int p2), (3, .ref (ad q3)), (4, .int p4), (5, .ref (ad q5))]) hx hb dX10_aligns_76 hl (k := 1) rfl (by rw [evv20]; rfl) (by decide) rfl (fun ls hl => ?_)
            refine lv_goto (tgt := 56) hx hb dX10_aligns_79 (by decide) ?_
            exact ih vv19 vv20 H locs ls hE jw (lv_sub hl [0, 1, 2, 3, 4, 5, 6, 7, 8, 9] rfl)
      exact LP13 j_fuel (0 : Int32) (0 : Int32) H locs ls hE jw (lv_sub hl [0, 1, 2, 3, 4, 5, 6, 7, 8, 9] rfl)
  have LP1 : ∀ (n : Nat) (vv2 : Int32) (mm3 : JM) (H : Heap) (locs : List Loc) (ls : Array Slot), G1 (lp_X10_aligns_1 Y q5 n vv2 mm3) = some r → JW D Y ty ad A s.heap mm3 H locs → lv_has ls 10 [(6, .int vv2), (0, .ref (ad o)), (1, .ref (ad q1)), (2, .int p2), (3, .ref (ad q3)), (4, .int p4), (5, .ref (ad q5))] → W p l e R s m args below meth c H locs 0 0 Q (F0 m 3 ls []) := by
    intro n
    induction n with
    | zero => intro vv2 mm3 H locs ls hE jw hl; exact absurd hE (hG1 _)
    | succ n ih =>
      intro vv2 mm3 H locs ls hE jw hl
      rw [lp_X10_aligns_1] at hE
      refine lv_iload hx hb dX10_aligns_3 (lv_at hl 0 rfl) ?_
      refine lv_bipush (v := 24) hx hb dX10_aligns_5 (by decide) ?_
      refine lv_icmp_ge (tgt := 22) hx hb dX10_aligns_7 (by decide) (fun c4 => ?_) (fun c4 => ?_)
      · rw [if_pos c4] at hE
        exact E1_22 mm3  H locs ls hE jw (lv_sub hl [1, 2, 3, 4, 5, 6] rfl)
      · rw [if_neg c4] at hE
        refine lv_aload hx hb dX10_aligns_10 (lv_at hl 6 rfl) ?_
        refine lv_iload hx hb dX10_aligns_12 (lv_at hl 0 rfl) ?_
        refine lv_iconst (v := -1) hx hb dX10_aligns_14 (by decide) ?_
        rcases Classical.em (j_g vv2 (j_ln Y q5)) with g5 | g5
        case inr => rw [if_neg g5] at hE; exact absurd hE (hG1 _)
        rw [if_pos g5] at hE
        refine jr_iast jc jw hq5 (j_g_in g5) dX10_aligns_15 (fun H locs jw => ?_)
        obtain ⟨mm6, emm6, hE⟩ := j_lv hE
        rw [← emm6] at jw
        try dsimp only at hE
        obtain ⟨vv7, evv7, hE⟩ := j_lv hE
        try dsimp only at hE
        refine lv_iinc (v := vv7) (lv' := [(6, .int vv7), (0, .ref (ad o)), (1, .ref (ad q1)), (2, .int p2), (3, .ref (ad q3)), (4, .int p4), (5, .ref (ad q5))]) hx hb dX10_aligns_16 hl (k := 0) rfl (by rw [evv7]; rfl) (by decide) rfl (fun ls hl => ?_)
        refine lv_goto (tgt := 3) hx hb dX10_aligns_19 (by decide) ?_
        exact ih vv7 mm6 H locs ls hE jw (lv_sub hl [0, 1, 2, 3, 4, 5, 6] rfl)
  exact LP1 j_fuel (0 : Int32) M s.heap [] ls hE jw (lv_sub hl [0, 1, 2, 3, 4, 5, 6] rfl)
def lp_X10_takes_1 (Y : JY) (p1 : Int32) (o : Nat) (q2 : Nat) (n : Nat) (vv2 : Int32) (mm3 : JM) : Option (JM) := match n with
  | 0 => none
  | n + 1 => if j_g p1 (j_ln Y (j_rf Y o 2)) then (if (mm3 (j_rf Y o 2) p1.toNatClampNeg) ≤ vv2 then (some mm3) else (if j_g (((24 : Int32) * p1) + vv2) (j_ln Y (j_rf Y o 1)) then (if j_g vv2 (j_ln Y q2) then (lt_ (j_up mm3 q2 vv2.toNatClampNeg (mm3 (j_rf Y o 1) (((24 : Int32) * p1) + vv2).toNatClampNeg)) fun mm10 => lt_ (vv2 + (1 : Int32)) fun vv11 => lp_X10_takes_1 Y p1 o q2 n vv11 mm10) else none) else none)) else none
def s_X10_takes (Y : JY) (M : JM) (o : Nat) (p1 : Int32) (q2 : Nat) : Option (Int32 × JM) := (lp_X10_takes_1 Y p1 o q2 j_fuel (0 : Int32) M).bind fun xx15 => if j_g p1 (j_ln Y (j_rf Y o 2)) then (some ((xx15 (j_rf Y o 2) p1.toNatClampNeg), xx15)) else none
set_option maxRecDepth 100000 in
set_option maxHeartbeats 4000000 in
theorem c_X10_takes {D : va_G} {Y : JY} {ty : Nat → ClassId} {ad : Nat → Nat} {sz : Nat} {l : Launch} {M : JM} (hY : j_ok Y) {o : Nat} {p1 : Int32} {q2 : Nat} (ho : j_kd Y o = 10) (hq2 : j_kd Y q2 = 100) {r : Int32 × JM} (hE : s_X10_takes Y M o p1 q2 = some r) : JMi D Y ty ad sz l yX10_takes cX10_takes 4 (some .int) 0 0 [.ref (ad o), .int p1, .ref (ad q2)] M r.1 r.2 := by
  refine j_ofI hY (by decide +kernel) (Nat.le_of_ble_eq_true rfl) (fun p e s m below meth c args R Q A hRf hRl hA jc jw kr ls hl => ?_)
  have hx := jc.1
  have hb := jc.2.1
  have hl : lv_has ls 4 [(0, .ref (ad o)), (1, .int p1), (2, .ref (ad q2))] := hl
  unfold s_X10_takes at hE
  obtain ⟨G0, eG0, hG0, hE⟩ := j_F0o hE
  refine lv_iconst (v := 0) hx hb dX10_takes_0 (by decide) ?_
  refine lv_istore_n (lv' := [(3, .int (0 : Int32)), (0, .ref (ad o)), (1, .int p1), (2, .ref (ad q2))]) hx hb dX10_takes_1 rfl hl (by decide) rfl (fun ls hl => ?_)
  obtain ⟨G1, eG1, hG1, hE⟩ := j_ctxB hG0 hE
  have E1_32 : ∀ (mm12 : JM)  (H : Heap) (locs : List Loc) (ls : Array Slot), G1 (some mm12) = some r → JW D Y ty ad A s.heap mm12 H locs → lv_has ls 4 [(0, .ref (ad o)), (1, .int p1)] → W p l e R s m args below meth c H locs 0 0 Q (F0 m 32 ls []) := by
    intro mm12  H locs ls hE jw hl
    replace hE := j_popB eG1 hE
    try dsimp only at hE
    refine lv_aload_n hx hb dX10_takes_32 rfl (lv_at hl 0 rfl) ?_
    refine jg_10_2 jc jw ho wd_6_61 dX10_takes_33 ?_
    have k13 := j_sub hY ho 2 (f := 100) rfl (by decide) (by decide) (by decide)
    refine lv_iload_n hx hb dX10_takes_36 rfl (lv_at hl 1 rfl) ?_
    rcases Classical.em (j_g p1 (j_ln Y (j_rf Y o 2))) with g14 | g14
    case inr => rw [if_neg g14] at hE; exact absurd hE (hG0 _)
    rw [if_pos g14] at hE
    refine jr_iald jc jw k13 (j_g_in g14) dX10_takes_37 ?_
    exact kr _ _ _ _ _ _ (congrArg Prod.fst (Option.some.inj (j_ret eG0 hE))) (congrArg Prod.snd (Option.some.inj (j_ret eG0 hE))) jw dX10_takes_38
  have LP1 : ∀ (n : Nat) (vv2 : Int32) (mm3 : JM) (H : Heap) (locs : List Loc) (ls : Array Slot), G1 (lp_X10_takes_1 Y p1 o q2 n vv2 mm3) = some r → JW D Y ty ad A s.heap mm3 H locs → lv_has ls 4 [(3, .int vv2), (0, .ref (ad o)), (1, .int p1), (2, .ref (ad q2))] → W p l e R s m args below meth c H locs 0 0 Q (F0 m 2 ls []) := by
    intro n
    induction n with
    | zero => intro vv2 mm3 H locs ls hE jw hl; exact absurd hE (hG1 _)
    | succ n ih =>
      intro vv2 mm3 H locs ls hE jw hl
      rw [lp_X10_takes_1] at hE
      refine lv_iload_n hx hb dX10_takes_2 rfl (lv_at hl 0 rfl) ?_
      refine lv_aload_n hx hb dX10_takes_3 rfl (lv_at hl 1 rfl) ?_
      refine jg_10_2 jc jw ho wd_6_61 dX10_takes_4 ?_
      have k4 := j_sub hY ho 2 (f := 100) rfl (by decide) (by decide) (by decide)
      refine lv_iload_n hx hb dX10_takes_7 rfl (lv_at hl 2 rfl) ?_
      rcases Classical.em (j_g p1 (j_ln Y (j_rf Y o 2))) with g5 | g5
      case inr => rw [if_neg g5] at hE; exact absurd hE (hG1 _)
      rw [if_pos g5] at hE
      refine jr_iald jc jw k4 (j_g_in g5) dX10_takes_8 ?_
      refine lv_icmp_ge (tgt := 32) hx hb dX10_takes_9 (by decide) (fun c6 => ?_) (fun c6 => ?_)
      · rw [if_pos c6] at hE
        exact E1_32 mm3  H locs ls hE jw (lv_sub hl [1, 2] rfl)
      · rw [if_neg c6] at hE
        refine lv_aload_n hx hb dX10_takes_12 rfl (lv_at hl 3 rfl) ?_
        refine lv_iload_n hx hb dX10_takes_13 rfl (lv_at hl 0 rfl) ?_
        refine lv_aload_n hx hb dX10_takes_14 rfl (lv_at hl 1 rfl) ?_
        refine jg_10_1 jc jw ho wd_6_60 dX10_takes_15 ?_
        have k7 := j_sub hY ho 1 (f := 100) rfl (by decide) (by decide) (by decide)
        refine lv_bipush (v := 24) hx hb dX10_takes_18 (by decide) ?_
        refine lv_iload_n hx hb dX10_takes_20 rfl (lv_at hl 2 rfl) ?_
        refine lv_imul hx hb dX10_takes_21 ?_
        refine lv_iload_n hx hb dX10_takes_22 rfl (lv_at hl 0 rfl) ?_
        refine lv_iadd hx hb dX10_takes_23 ?_
        rcases Classical.em (j_g (((24 : Int32) * p1) + vv2) (j_ln Y (j_rf Y o 1))) with g8 | g8
        case inr => rw [if_neg g8] at hE; exact absurd hE (hG1 _)
        rw [if_pos g8] at hE
        refine jr_iald jc jw k7 (j_g_in g8) dX10_takes_24 ?_
        rcases Classical.em (j_g vv2 (j_ln Y q2)) with g9 | g9
        case inr => rw [if_neg g9] at hE; exact absurd hE (hG1 _)
        rw [if_pos g9] at hE
        refine jr_iast jc jw hq2 (j_g_in g9) dX10_takes_25 (fun H locs jw => ?_)
        obtain ⟨mm10, emm10, hE⟩ := j_lv hE
        rw [← emm10] at jw
        try dsimp only at hE
        obtain ⟨vv11, evv11, hE⟩ := j_lv hE
        try dsimp only at hE
        refine lv_iinc (v := vv11) (lv' := [(3, .int vv11), (0, .ref (ad o)), (1, .int p1), (2, .ref (ad q2))]) hx hb dX10_takes_26 hl (k := 0) rfl (by rw [evv11]; rfl) (by decide) rfl (fun ls hl => ?_)
        refine lv_goto (tgt := 2) hx hb dX10_takes_29 (by decide) ?_
        exact ih vv11 mm10 H locs ls hE jw (lv_sub hl [0, 1, 2, 3] rfl)
  exact LP1 j_fuel (0 : Int32) M s.heap [] ls hE jw (lv_sub hl [0, 1, 2, 3] rfl)
def s_X10_distance (Y : JY) (M : JM) (o : Nat) (p1 : Int32) (p2 : Int32) : Option (Int32 × JM) := if (s_X10_isRegister Y M p1) = 0 ∨ (s_X10_isRegister Y M p2) = 0 then (lt_ (s_X10_fails Y M o (1 : Int32)) fun xx5 => some (xx5.1, xx5.2)) else ((s_X10_takes Y M o p1 (j_rf Y o 23)).bind fun xx7 => lt_ xx7.1 fun vv8 => (s_X10_takes Y xx7.2 o p2 (j_rf Y o 24)).bind fun xx10 => lt_ xx10.1 fun vv11 => (s_X10_measures Y xx10.2 o (j_rf Y o 23) (j_rf Y o 24) (0 : Int32) vv8 (0 : Int32) vv11).bind fun xx12 => (s_X10_longestOf Y xx12 o (0 : Int32) (0 : Int32)).bind fun xx13 => lt_ (s_X10_done Y xx12 o ((vv8 + vv11) - ((2 : Int32) * xx13))) fun xx14 => some (xx14.1, xx14.2))
set_option maxRecDepth 100000 in
set_option maxHeartbeats 4000000 in
theorem c_X10_distance {D : va_G} {Y : JY} {ty : Nat → ClassId} {ad : Nat → Nat} {sz : Nat} {l : Launch} {M : JM} (hY : j_ok Y) {o : Nat} {p1 : Int32} {p2 : Int32} (ho : j_kd Y o = 10) {r : Int32 × JM} (hE : s_X10_distance Y M o p1 p2 = some r) : JMi D Y ty ad sz l yX10_distance cX10_distance 5 (some .int) 2 51 [.ref (ad o), .int p1, .int p2] M r.1 r.2 := by
  refine j_ofI hY (by decide +kernel) (Nat.le_of_ble_eq_true rfl) (fun p e s m below meth c args R Q A hRf hRl hA jc jw kr ls hl => ?_)
  have hx := jc.1
  have hb := jc.2.1
  have hl : lv_has ls 5 [(0, .ref (ad o)), (1, .int p1), (2, .int p2)] := hl
  unfold s_X10_distance at hE
  obtain ⟨G0, eG0, hG0, hE⟩ := j_F0o hE
  refine lv_iload_n hx hb dX10_distance_0 rfl (lv_at hl 1 rfl) ?_
  refine jc_sz [.int p1] [] jc jw hA (c_X10_isRegister hY  (M := M) rfl) sd_X10_126 rfl hl.1 (j_hR hRf hRl rfl rfl) (Nat.le_of_ble_eq_true rfl) dX10_distance_1 (fun H locs jw hz => ?_)
  have z_1 := hz
  have B15 : ∀ (H : Heap) (locs : List Loc), JW D Y ty ad A s.heap M H locs → ((s_X10_isRegister Y M p1) = 0 ∨ (s_X10_isRegister Y M p2) = 0) → W p l e R s m args below meth c H locs 0 0 Q (F0 m 14 ls []) := by
    intro H locs jw hcc
    rw [if_pos hcc] at hE
    refine lv_aload_n hx hb dX10_distance_14 rfl (lv_at hl 0 rfl) ?_
    refine lv_iconst (v := 1) hx hb dX10_distance_15 (by decide) ?_
    obtain ⟨xx5, exx5, hE⟩ := j_lv hE
    try dsimp only at hE
    refine jc_vi [.int (1 : Int32)] [] jc jw hA ho (by decide) rfl (c_X10_fails hY ho (M := M) exx5.symm) sd_X10_130 rfl hl.1 (j_hR hRf hRl rfl rfl) (Nat.le_of_ble_eq_true rfl) dX10_distance_16 (fun H locs jw => ?_)
    exact kr _ _ _ _ _ _ (congrArg Prod.fst (Option.some.inj (j_ret eG0 hE))) (congrArg Prod.snd (Option.some.inj (j_ret eG0 hE))) jw dX10_distance_19
  refine lv_if_eq (tgt := 14) hx hb dX10_distance_4 (by decide) (fun c2 => B15 _ _ jw (Or.inl c2)) (fun c2 => ?_)
  refine lv_iload_n hx hb dX10_distance_7 rfl (lv_at hl 2 rfl) ?_
  refine jc_sz [.int p2] [] jc jw hA (c_X10_isRegister hY  (M := M) rfl) sd_X10_126 rfl hl.1 (j_hR hRf hRl rfl rfl) (Nat.le_of_ble_eq_true rfl) dX10_distance_8 (fun H locs jw hz => ?_)
  have z_3 := hz
  refine lv_if_ne (tgt := 20) hx hb dX10_distance_11 (by decide) (fun c4 => ?_) (fun c4 => B15 _ _ jw (Or.inr c4))
  rw [if_neg (fun hq => hq.elim (fun hq => (j_abs c2 hq)) (fun hq => (j_abs c4 hq)))] at hE
  refine lv_aload_n hx hb dX10_distance_20 rfl (lv_at hl 0 rfl) ?_
  refine lv_iload_n hx hb dX10_distance_21 rfl (lv_at hl 1 rfl) ?_
  refine lv_aload_n hx hb dX10_distance_22 rfl (lv_at hl 0 rfl) ?_
  refine jg_10_23 jc jw ho wd_6_82 dX10_distance_23 ?_
  have k6 := j_sub hY ho 23 (f := 100) rfl (by decide) (by decide) (by decide)
  obtain ⟨xx7, exx7, hE⟩ := j_bd hG0 hE
  try dsimp only at hE
  refine jc_vi [.int p1, .ref (ad (j_rf Y o 23))] [] jc jw hA ho (by decide) rfl (c_X10_takes hY ho k6 (M := M) exx7) sd_X10_207 rfl hl.1 (j_hR hRf hRl rfl rfl) (Nat.le_of_ble_eq_true rfl) dX10_distance_26 (fun H locs jw => ?_)
  refine lv_topi (fun vv8 evv8 => ?_)
  replace hE := j_lu hE evv8
  try dsimp only at hE
  refine lv_istore_n (lv' := [(3, .int vv8), (0, .ref (ad o)), (1, .int p1), (2, .int p2)]) hx hb dX10_distance_29 rfl hl (by decide) rfl (fun ls hl => ?_)
  refine lv_aload_n hx hb dX10_distance_30 rfl (lv_at hl 1 rfl) ?_
  refine lv_iload_n hx hb dX10_distance_31 rfl (lv_at hl 3 rfl) ?_
  refine lv_aload_n hx hb dX10_distance_32 rfl (lv_at hl 1 rfl) ?_
  refine jg_10_24 jc jw ho wd_6_83 dX10_distance_33 ?_
  have k9 := j_sub hY ho 24 (f := 100) rfl (by decide) (by decide) (by decide)
  obtain ⟨xx10, exx10, hE⟩ := j_bd hG0 hE
  try dsimp only at hE
  refine jc_vi [.int p2, .ref (ad (j_rf Y o 24))] [] jc jw hA ho (by decide) rfl (c_X10_takes hY ho k9 (M := xx7.2) exx10) sd_X10_207 rfl hl.1 (j_hR hRf hRl rfl rfl) (Nat.le_of_ble_eq_true rfl) dX10_distance_36 (fun H locs jw => ?_)
  refine lv_topi (fun vv11 evv11 => ?_)
  replace hE := j_lu hE evv11
  try dsimp only at hE
  refine lv_istore (lv' := [(4, .int vv11), (3, .int vv8), (0, .ref (ad o)), (1, .int p1), (2, .int p2)]) hx hb dX10_distance_39 hl (by decide) rfl (fun ls hl => ?_)
  refine lv_aload_n hx hb dX10_distance_41 rfl (lv_at hl 2 rfl) ?_
  refine lv_aload_n hx hb dX10_distance_42 rfl (lv_at hl 2 rfl) ?_
  refine jg_10_23 jc jw ho wd_6_82 dX10_distance_43 ?_
  refine lv_aload_n hx hb dX10_distance_46 rfl (lv_at hl 2 rfl) ?_
  refine jg_10_24 jc jw ho wd_6_83 dX10_distance_47 ?_
  refine lv_iconst (v := 0) hx hb dX10_distance_50 (by decide) ?_
  refine lv_iload_n hx hb dX10_distance_51 rfl (lv_at hl 1 rfl) ?_
  refine lv_iconst (v := 0) hx hb dX10_distance_52 (by decide) ?_
  refine lv_iload hx hb dX10_distance_53 (lv_at hl 0 rfl) ?_
  obtain ⟨xx12, exx12, hE⟩ := j_bd hG0 hE
  try dsimp only at hE
  refine jc_vv [.ref (ad (j_rf Y o 23)), .ref (ad (j_rf Y o 24)), .int (0 : Int32), .int vv8, .int (0 : Int32), .int vv11] [] jc jw hA ho (by decide) rfl (c_X10_measures hY ho k6 k9 (M := xx10.2) exx12) sd_X10_185 rfl hl.1 (j_hR hRf hRl rfl rfl) (Nat.le_of_ble_eq_true rfl) dX10_distance_55 (fun H locs jw => ?_)
  refine lv_aload_n hx hb dX10_distance_58 rfl (lv_at hl 2 rfl) ?_
  refine lv_iload_n hx hb dX10_distance_59 rfl (lv_at hl 1 rfl) ?_
  refine lv_iload hx hb dX10_distance_60 (lv_at hl 0 rfl) ?_
  refine lv_iadd hx hb dX10_distance_62 ?_
  refine lv_iconst (v := 2) hx hb dX10_distance_63 (by decide) ?_
  refine lv_aload_n hx hb dX10_distance_64 rfl (lv_at hl 2 rfl) ?_
  refine lv_iconst (v := 0) hx hb dX10_distance_65 (by decide) ?_
  refine lv_iconst (v := 0) hx hb dX10_distance_66 (by decide) ?_
  obtain ⟨xx13, exx13, hE⟩ := j_bd hG0 hE
  try dsimp only at hE
  refine jc_vi [.int (0 : Int32), .int (0 : Int32)] [.int (2 : Int32), .int (vv8 + vv11), .ref (ad o)] jc jw hA ho (by decide) rfl (c_X10_longestOf hY ho (M := xx12) exx13) sd_X10_178 rfl hl.1 (j_hR hRf hRl rfl rfl) (Nat.le_of_ble_eq_true rfl) dX10_distance_67 (fun H locs jw => ?_)
  refine lv_imul hx hb dX10_distance_70 ?_
  refine lv_isub hx hb dX10_distance_71 ?_
  obtain ⟨xx14, exx14, hE⟩ := j_lv hE
  try dsimp only at hE
  refine jc_vi [.int ((vv8 + vv11) - ((2 : Int32) * xx13))] [] jc jw hA ho (by decide) rfl (c_X10_done hY ho (M := xx12) exx14.symm) sd_X10_138 rfl hl.1 (j_hR hRf hRl rfl rfl) (Nat.le_of_ble_eq_true rfl) dX10_distance_72 (fun H locs jw => ?_)
  exact kr _ _ _ _ _ _ (congrArg Prod.fst (Option.some.inj (j_ret eG0 hE))) (congrArg Prod.snd (Option.some.inj (j_ret eG0 hE))) jw dX10_distance_75
def s_X10_setMode (Y : JY) (M : JM) (o : Nat) (p1 : Int32) : Int32 × JM := if (s_X10_in Y M p1 (0 : Int32) (1 : Int32)) = 0 then (lt_ (s_X10_fails Y M o (1 : Int32)) fun xx3 => (xx3.1, xx3.2)) else (lt_ (M o 3) fun vv4 => lt_ (j_up M o 3 p1) fun mm5 => lt_ (s_X10_done Y mm5 o vv4) fun xx6 => (xx6.1, xx6.2))
set_option maxRecDepth 100000 in
set_option maxHeartbeats 4000000 in
theorem c_X10_setMode {D : va_G} {Y : JY} {ty : Nat → ClassId} {ad : Nat → Nat} {sz : Nat} {l : Launch} {M : JM} (hY : j_ok Y) {o : Nat} {p1 : Int32} (ho : j_kd Y o = 10) {r : Int32 × JM} (hE : s_X10_setMode Y M o p1 = r) : JMi D Y ty ad sz l yX10_setMode cX10_setMode 3 (some .int) 1 22 [.ref (ad o), .int p1] M r.1 r.2 := by
  refine j_ofI hY (by decide +kernel) (Nat.le_of_ble_eq_true rfl) (fun p e s m below meth c args R Q A hRf hRl hA jc jw kr ls hl => ?_)
  have hx := jc.1
  have hb := jc.2.1
  have hl : lv_has ls 3 [(0, .ref (ad o)), (1, .int p1)] := hl
  unfold s_X10_setMode at hE
  obtain ⟨G0, eG0, hE⟩ := j_F0 hE
  refine lv_iload_n hx hb dX10_setMode_0 rfl (lv_at hl 1 rfl) ?_
  refine lv_iconst (v := 0) hx hb dX10_setMode_1 (by decide) ?_
  refine lv_iconst (v := 1) hx hb dX10_setMode_2 (by decide) ?_
  refine jc_sz [.int p1, .int (0 : Int32), .int (1 : Int32)] [] jc jw hA (c_X10_in hY  (M := M) rfl) sd_X10_119 rfl hl.1 (j_hR hRf hRl rfl rfl) (Nat.le_of_ble_eq_true rfl) dX10_setMode_3 (fun H locs jw hz => ?_)
  have z_1 := hz
  refine lv_if_ne (tgt := 15) hx hb dX10_setMode_6 (by decide) (fun c2 => ?_) (fun c2 => ?_)
  · rw [if_neg c2] at hE
    refine lv_aload_n hx hb dX10_setMode_15 rfl (lv_at hl 0 rfl) ?_
    refine jg_10_3 jc jw ho wd_6_62 dX10_setMode_16 ?_
    refine lv_topi (fun vv4 evv4 => ?_)
    replace hE := j_lu hE evv4
    try dsimp only at hE
    refine lv_istore_n (lv' := [(2, .int vv4), (0, .ref (ad o)), (1, .int p1)]) hx hb dX10_setMode_19 rfl hl (by decide) rfl (fun ls hl => ?_)
    refine lv_aload_n hx hb dX10_setMode_20 rfl (lv_at hl 1 rfl) ?_
    refine lv_iload_n hx hb dX10_setMode_21 rfl (lv_at hl 2 rfl) ?_
    refine js_10_3 jc jw ho wd_6_62 dX10_setMode_22 (fun H locs jw => ?_)
    obtain ⟨mm5, emm5, hE⟩ := j_lv hE
    rw [← emm5] at jw
    try dsimp only at hE
    refine lv_aload_n hx hb dX10_setMode_25 rfl (lv_at hl 1 rfl) ?_
    refine lv_iload_n hx hb dX10_setMode_26 rfl (lv_at hl 0 rfl) ?_
    obtain ⟨xx6, exx6, hE⟩ := j_lv hE
    try dsimp only at hE
    refine jc_vi [.int vv4] [] jc jw hA ho (by decide) rfl (c_X10_done hY ho (M := mm5) exx6.symm) sd_X10_138 rfl hl.1 (j_hR hRf hRl rfl rfl) (Nat.le_of_ble_eq_true rfl) dX10_setMode_27 (fun H locs jw => ?_)
    exact kr _ _ _ _ _ _ (congrArg Prod.fst (j_ret eG0 hE)) (congrArg Prod.snd (j_ret eG0 hE)) jw dX10_setMode_30
  · rw [if_pos c2] at hE
    refine lv_aload_n hx hb dX10_setMode_9 rfl (lv_at hl 0 rfl) ?_
    refine lv_iconst (v := 1) hx hb dX10_setMode_10 (by decide) ?_
    obtain ⟨xx3, exx3, hE⟩ := j_lv hE
    try dsimp only at hE
    refine jc_vi [.int (1 : Int32)] [] jc jw hA ho (by decide) rfl (c_X10_fails hY ho (M := M) exx3.symm) sd_X10_130 rfl hl.1 (j_hR hRf hRl rfl rfl) (Nat.le_of_ble_eq_true rfl) dX10_setMode_11 (fun H locs jw => ?_)
    exact kr _ _ _ _ _ _ (congrArg Prod.fst (j_ret eG0 hE)) (congrArg Prod.snd (j_ret eG0 hE)) jw dX10_setMode_14
def lp_X10_tellParts_1 (Y : JY) (o : Nat) (n : Nat) (vv3 : Int32) (vv4 : Int32) (vv5 : Int32) (mm6 : JM) : Option (JM) := match n with
  | 0 => none
  | n + 1 => if (mm6 o 27) < vv5 then (some mm6) else (lt_ (if vv5 = (mm6 o 27) then ((1 : Int32)) else ((0 : Int32))) fun xx47 => ((if xx47 = 0 then (if j_g vv5 (j_ln Y (j_rf Y o 30)) then (if (mm6 (j_rf Y o 30) vv5.toNatClampNeg) < 0 then (some (Sum.inr (vv3, vv4, mm6))) else (some (Sum.inl ()))) else none) else (some (Sum.inl ()))).bind fun xx41 => match xx41 with | Sum.inl _ => ((if xx47 = 0 then (if j_g vv5 (j_ln Y (j_rf Y o 30)) then (some (mm6 (j_rf Y o 30) vv5.toNatClampNeg)) else none) else (some (mm6 o 29))).bind fun xx40 => (if vv3 < vv5 ∨ ¬ (xx40 ≤ vv4) then (if j_g ((4 : Int32) * (mm6 o 35)) (j_ln Y (j_rf Y o 34)) then (lt_ (j_up mm6 (j_rf Y o 34) ((4 : Int32) * (mm6 o 35)).toNatClampNeg vv3) fun mm27 => if j_g (((4 : Int32) * (mm27 o 35)) + (1 : Int32)) (j_ln Y (j_rf Y o 34)) then (lt_ (j_up mm27 (j_rf Y o 34) (((4 : Int32) * (mm27 o 35)) + (1 : Int32)).toNatClampNeg vv5) fun mm29 => if j_g (((4 : Int32) * (mm29 o 35)) + (2 : Int32)) (j_ln Y (j_rf Y o 34)) then (lt_ (j_up mm29 (j_rf Y o 34) (((4 : Int32) * (mm29 o 35)) + (2 : Int32)).toNatClampNeg vv4) fun mm31 => if j_g (((4 : Int32) * (mm31 o 35)) + (3 : Int32)) (j_ln Y (j_rf Y o 34)) then (lt_ (j_up mm31 (j_rf Y o 34) (((4 : Int32) * (mm31 o 35)) + (3 : Int32)).toNatClampNeg xx40) fun mm33 => lt_ (j_up mm33 o 35 ((mm33 o 35) + (1 : Int32))) fun mm34 => some mm34) else none) else none) else none) else none) else (some mm6)).bind fun xx39 => lt_ (vv5 + (1 : Int32)) fun vv37 => lt_ (xx40 + (1 : Int32)) fun vv38 => some (vv37, vv38, xx39)) | Sum.inr yy41 => (some (yy41.1, yy41.2.1, yy41.2.2))).bind fun xx46 => lt_ (vv5 + (1 : Int32)) fun vv45 => lp_X10_tellParts_1 Y o n xx46.1 xx46.2.1 vv45 xx46.2.2)
def s_X10_tellParts (Y : JY) (M : JM) (o : Nat) : Option (JM) := lt_ (j_up M o 35 (0 : Int32)) fun mm1 => (lp_X10_tellParts_1 Y o j_fuel (0 : Int32) (0 : Int32) (0 : Int32) mm1).bind fun xx48 => some xx48
set_option maxRecDepth 100000 in
set_option maxHeartbeats 4000000 in
theorem c_X10_tellParts {D : va_G} {Y : JY} {ty : Nat → ClassId} {ad : Nat → Nat} {sz : Nat} {l : Launch} {M : JM} (hY : j_ok Y) {o : Nat} (ho : j_kd Y o = 10) {r : JM} (hE : s_X10_tellParts Y M o = some r) : JMv D Y ty ad sz l yX10_tellParts cX10_tellParts 6 0 0 [.ref (ad o)] M r := by
  refine j_ofV hY (by decide +kernel) (Nat.le_of_ble_eq_true rfl) (fun p e s m below meth c args R Q A hRf hRl hA jc jw kr ls hl => ?_)
  have hx := jc.1
  have hb := jc.2.1
  have hl : lv_has ls 6 [(0, .ref (ad o))] := hl
  unfold s_X10_tellParts at hE
  obtain ⟨G0, eG0, hG0, hE⟩ := j_F0o hE
  refine lv_aload_n hx hb dX10_tellParts_0 rfl (lv_at hl 0 rfl) ?_
  refine lv_iconst (v := 0) hx hb dX10_tellParts_1 (by decide) ?_
  refine js_10_35 jc jw ho wd_6_94 dX10_tellParts_2 (fun H locs jw => ?_)
  obtain ⟨mm1, emm1, hE⟩ := j_lv hE
  rw [← emm1] at jw
  try dsimp only at hE
  refine lv_iconst (v := 0) hx hb dX10_tellParts_5 (by decide) ?_
  refine lv_istore_n (lv' := [(1, .int (0 : Int32)), (0, .ref (ad o))]) hx hb dX10_tellParts_6 rfl hl (by decide) rfl (fun ls hl => ?_)
  refine lv_iconst (v := 0) hx hb dX10_tellParts_7 (by decide) ?_
  refine lv_istore_n (lv' := [(2, .int (0 : Int32)), (1, .int (0 : Int32)), (0, .ref (ad o))]) hx hb dX10_tellParts_8 rfl hl (by decide) rfl (fun ls hl => ?_)
  refine lv_iconst (v := 0) hx hb dX10_tellParts_9 (by decide) ?_
  refine lv_istore_n (lv' := [(3, .int (0 : Int32)), (2, .int (0 : Int32)), (1, .int (0 : Int32)), (0, .ref (ad o))]) hx hb dX10_tellParts_10 rfl hl (by decide) rfl (fun ls hl => ?_)
  obtain ⟨G2, eG2, hG2, hE⟩ := j_ctxB hG0 hE
  have LP2 : ∀ (n : Nat) (vv3 : Int32) (vv4 : Int32) (vv5 : Int32) (mm6 : JM) (H : Heap) (locs : List Loc) (ls : Array Slot), G2 (lp_X10_tellParts_1 Y o n vv3 vv4 vv5 mm6) = some r → JW D Y ty ad A s.heap mm6 H locs → lv_has ls 6 [(3, .int vv5), (2, .int vv4), (1, .int vv3), (0, .ref (ad o))] → W p l e R s m args below meth c H locs 0 0 Q (F0 m 11 ls []) := by
    intro n
    induction n with
    | zero => intro vv3 vv4 vv5 mm6 H locs ls hE jw hl; exact absurd hE (hG2 _)
    | succ n ih =>
      intro vv3 vv4 vv5 mm6 H locs ls hE jw hl
      rw [lp_X10_tellParts_1] at hE
      refine lv_iload_n hx hb dX10_tellParts_11 rfl (lv_at hl 0 rfl) ?_
      refine lv_aload_n hx hb dX10_tellParts_12 rfl (lv_at hl 3 rfl) ?_
      refine jg_10_27 jc jw ho wd_6_86 dX10_tellParts_13 ?_
      refine lv_icmp_gt (tgt := 159) hx hb dX10_tellParts_16 (by decide) (fun c7 => ?_) (fun c7 => ?_)
      · rw [if_pos c7] at hE
        replace hE := j_popB eG2 hE
        try dsimp only at hE
        exact kr _ _ _ _ _ (Option.some.inj (j_ret eG0 hE)) jw dX10_tellParts_159
      · rw [if_neg c7] at hE
        refine lv_iload_n hx hb dX10_tellParts_19 rfl (lv_at hl 0 rfl) ?_
        refine lv_aload_n hx hb dX10_tellParts_20 rfl (lv_at hl 3 rfl) ?_
        refine jg_10_27 jc jw ho wd_6_86 dX10_tellParts_21 ?_
        obtain ⟨G9, eG9, hE⟩ := j_ctxL hE
        have J9 : ∀ (vv10 : Int32)  (H : Heap) (locs : List Loc) (ls : Array Slot), G9 (vv10) = some r → JW D Y ty ad A s.heap mm6 H locs → lv_has ls 6 [(3, .int vv5), (2, .int vv4), (1, .int vv3), (0, .ref (ad o))] → W p l e R s m args below meth c H locs 0 0 Q (F0 m 32 ls [.int vv10]) := by
          intro vv10  H locs ls hE jw hl
          replace hE := j_popL eG9 hE
          try dsimp only at hE
          refine lv_istore (lv' := [(4, .int vv10), (3, .int vv5), (2, .int vv4), (1, .int vv3), (0, .ref (ad o))]) hx hb dX10_tellParts_32 hl (by decide) rfl (fun ls hl => ?_)
          refine lv_iload hx hb dX10_tellParts_34 (lv_at hl 0 rfl) ?_
          obtain ⟨G12, eG12, hG12, hE⟩ := j_ctxB hG2 hE
          have J12 : ∀ (vv42 : Int32) (vv43 : Int32) (mm44 : JM)  (H : Heap) (locs : List Loc) (ls : Array Slot), G12 (some (vv42, vv43, mm44)) = some r → JW D Y ty ad A s.heap mm44 H locs → lv_has ls 6 [(3, .int vv5), (2, .int vv43), (1, .int vv42), (0, .ref (ad o))] → W p l e R s m args below meth c H locs 0 0 Q (F0 m 153 ls []) := by
            intro vv42 vv43 mm44  H locs ls hE jw hl
            replace hE := j_popB eG12 hE
            try dsimp only at hE
            obtain ⟨vv45, evv45, hE⟩ := j_lv hE
            try dsimp only at hE
            refine lv_iinc (v := vv45) (lv' := [(3, .int vv45), (2, .int vv43), (1, .int vv42), (0, .ref (ad o))]) hx hb dX10_tellParts_153 hl (k := 0) rfl (by rw [evv45]; rfl) (by decide) rfl (fun ls hl => ?_)
            refine lv_goto (tgt := 11) hx hb dX10_tellParts_156 (by decide) ?_
            exact ih vv42 vv43 vv45 mm44 H locs ls hE jw (lv_sub hl [0, 1, 2, 3] rfl)
          obtain ⟨G13, eG13, hG13, hE⟩ := j_ctxB hG12 hE
          have J13 : ∀   (H : Heap) (locs : List Loc) (ls : Array Slot), G13 (some (Sum.inl ())) = some r → JW D Y ty ad A s.heap mm6 H locs → lv_has ls 6 [(4, .int vv10), (3, .int vv5), (2, .int vv4), (1, .int vv3), (0, .ref (ad o))] → W p l e R s m args below meth c H locs 0 0 Q (F0 m 48 ls []) := by
            intro   H locs ls hE jw hl
            replace hE := j_popB eG13 hE
            try dsimp only at hE
            refine lv_iload hx hb dX10_tellParts_48 (lv_at hl 0 rfl) ?_
            obtain ⟨G18, eG18, hG18, hE⟩ := j_ctxB hG12 hE
            have J18 : ∀ (vv21 : Int32)  (H : Heap) (locs : List Loc) (ls : Array Slot), G18 (some vv21) = some r → JW D Y ty ad A s.heap mm6 H locs → lv_has ls 6 [(3, .int vv5), (2, .int vv4), (1, .int vv3), (0, .ref (ad o))] → W p l e R s m args below meth c H locs 0 0 Q (F0 m 66 ls [.int vv21]) := by
              intro vv21  H locs ls hE jw hl
              replace hE := j_popB eG18 hE
              try dsimp only at hE
              refine lv_istore (lv' := [(5, .int vv21), (3, .int vv5), (2, .int vv4), (1, .int vv3), (0, .ref (ad o))]) hx hb dX10_tellParts_66 hl (by decide) rfl (fun ls hl => ?_)
              refine lv_iload_n hx hb dX10_tellParts_68 rfl (lv_at hl 1 rfl) ?_
              refine lv_iload_n hx hb dX10_tellParts_69 rfl (lv_at hl 3 rfl) ?_
              obtain ⟨G24, eG24, hG24, hE⟩ := j_ctxB hG12 hE
              have J24 : ∀ (mm36 : JM)  (H : Heap) (locs : List Loc) (ls : Array Slot), G24 (some mm36) = some r → JW D Y ty ad A s.heap mm36 H locs → lv_has ls 6 [(5, .int vv21), (3, .int vv5), (0, .ref (ad o))] → W p l e R s m args below meth c H locs 0 0 Q (F0 m 144 ls []) := by
                intro mm36  H locs ls hE jw hl
                replace hE := j_popB eG24 hE
                try dsimp only at hE
                refine lv_iload_n hx hb dX10_tellParts_144 rfl (lv_at hl 1 rfl) ?_
                refine lv_iconst (v := 1) hx hb dX10_tellParts_145 (by decide) ?_
                refine lv_iadd hx hb dX10_tellParts_146 ?_
                refine lv_topi (fun vv37 evv37 => ?_)
                replace hE := j_lu hE evv37
                try dsimp only at hE
                refine lv_istore_n (lv' := [(1, .int vv37), (5, .int vv21), (3, .int vv5), (0, .ref (ad o))]) hx hb dX10_tellParts_147 rfl hl (by decide) rfl (fun ls hl => ?_)
                refine lv_iload hx hb dX10_tellParts_148 (lv_at hl 1 rfl) ?_
                refine lv_iconst (v := 1) hx hb dX10_tellParts_150 (by decide) ?_
                refine lv_iadd hx hb dX10_tellParts_151 ?_
                refine lv_topi (fun vv38 evv38 => ?_)
                replace hE := j_lu hE evv38
                try dsimp only at hE
                refine lv_istore_n (lv' := [(2, .int vv38), (1, .int vv37), (5, .int vv21), (3, .int vv5), (0, .ref (ad o))]) hx hb dX10_tellParts_152 rfl hl (by decide) rfl (fun ls hl => ?_)
                exact J12 vv37 vv38 mm36  H locs ls hE jw (lv_sub hl [3, 0, 1, 4] rfl)
              have B35 : ∀ (H : Heap) (locs : List Loc), JW D Y ty ad A s.heap mm6 H locs → (vv3 < vv5 ∨ ¬ (vv21 ≤ vv4)) → W p l e R s m args below meth c H locs 0 0 Q (F0 m 79 ls []) := by
                intro H locs jw hcc
                rw [if_pos hcc] at hE
                refine lv_aload_n hx hb dX10_tellParts_79 rfl (lv_at hl 4 rfl) ?_
                refine jg_10_34 jc jw ho wd_6_93 dX10_tellParts_80 ?_
                have k25 := j_sub hY ho 34 (f := 100) rfl (by decide) (by decide) (by decide)
                refine lv_iconst (v := 4) hx hb dX10_tellParts_83 (by decide) ?_
                refine lv_aload_n hx hb dX10_tellParts_84 rfl (lv_at hl 4 rfl) ?_
                refine jg_10_35 jc jw ho wd_6_94 dX10_tellParts_85 ?_
                refine lv_imul hx hb dX10_tellParts_88 ?_
                refine lv_iload_n hx hb dX10_tellParts_89 rfl (lv_at hl 3 rfl) ?_
                rcases Classical.em (j_g ((4 : Int32) * (mm6 o 35)) (j_ln Y (j_rf Y o 34))) with g26 | g26
                case inr => rw [if_neg g26] at hE; exact absurd hE (hG24 _)
                rw [if_pos g26] at hE
                refine jr_iast jc jw k25 (j_g_in g26) dX10_tellParts_90 (fun H locs jw => ?_)
                obtain ⟨mm27, emm27, hE⟩ := j_lv hE
                rw [← emm27] at jw
                try dsimp only at hE
                refine lv_aload_n hx hb dX10_tellParts_91 rfl (lv_at hl 4 rfl) ?_
                refine jg_10_34 jc jw ho wd_6_93 dX10_tellParts_92 ?_
                refine lv_iconst (v := 4) hx hb dX10_tellParts_95 (by decide) ?_
                refine lv_aload_n hx hb dX10_tellParts_96 rfl (lv_at hl 4 rfl) ?_
                refine jg_10_35 jc jw ho wd_6_94 dX10_tellParts_97 ?_
                refine lv_imul hx hb dX10_tellParts_100 ?_
                refine lv_iconst (v := 1) hx hb dX10_tellParts_101 (by decide) ?_
                refine lv_iadd hx hb dX10_tellParts_102 ?_
                refine lv_iload_n hx hb dX10_tellParts_103 rfl (lv_at hl 1 rfl) ?_
                rcases Classical.em (j_g (((4 : Int32) * (mm27 o 35)) + (1 : Int32)) (j_ln Y (j_rf Y o 34))) with g28 | g28
                case inr => rw [if_neg g28] at hE; exact absurd hE (hG24 _)
                rw [if_pos g28] at hE
                refine jr_iast jc jw k25 (j_g_in g28) dX10_tellParts_104 (fun H locs jw => ?_)
                obtain ⟨mm29, emm29, hE⟩ := j_lv hE
                rw [← emm29] at jw
                try dsimp only at hE
                refine lv_aload_n hx hb dX10_tellParts_105 rfl (lv_at hl 4 rfl) ?_
                refine jg_10_34 jc jw ho wd_6_93 dX10_tellParts_106 ?_
                refine lv_iconst (v := 4) hx hb dX10_tellParts_109 (by decide) ?_
                refine lv_aload_n hx hb dX10_tellParts_110 rfl (lv_at hl 4 rfl) ?_
                refine jg_10_35 jc jw ho wd_6_94 dX10_tellParts_111 ?_
                refine lv_imul hx hb dX10_tellParts_114 ?_
                refine lv_iconst (v := 2) hx hb dX10_tellParts_115 (by decide) ?_
                refine lv_iadd hx hb dX10_tellParts_116 ?_
                refine lv_iload_n hx hb dX10_tellParts_117 rfl (lv_at hl 2 rfl) ?_
                rcases Classical.em (j_g (((4 : Int32) * (mm29 o 35)) + (2 : Int32)) (j_ln Y (j_rf Y o 34))) with g30 | g30
                case inr => rw [if_neg g30] at hE; exact absurd hE (hG24 _)
                rw [if_pos g30] at hE
                refine jr_iast jc jw k25 (j_g_in g30) dX10_tellParts_118 (fun H locs jw => ?_)
                obtain ⟨mm31, emm31, hE⟩ := j_lv hE
                rw [← emm31] at jw
                try dsimp only at hE
                refine lv_aload_n hx hb dX10_tellParts_119 rfl (lv_at hl 4 rfl) ?_
                refine jg_10_34 jc jw ho wd_6_93 dX10_tellParts_120 ?_
                refine lv_iconst (v := 4) hx hb dX10_tellParts_123 (by decide) ?_
                refine lv_aload_n hx hb dX10_tellParts_124 rfl (lv_at hl 4 rfl) ?_
                refine jg_10_35 jc jw ho wd_6_94 dX10_tellParts_125 ?_
                refine lv_imul hx hb dX10_tellParts_128 ?_
                refine lv_iconst (v := 3) hx hb dX10_tellParts_129 (by decide) ?_
                refine lv_iadd hx hb dX10_tellParts_130 ?_
                refine lv_iload hx hb dX10_tellParts_131 (lv_at hl 0 rfl) ?_
                rcases Classical.em (j_g (((4 : Int32) * (mm31 o 35)) + (3 : Int32)) (j_ln Y (j_rf Y o 34))) with g32 | g32
                case inr => rw [if_neg g32] at hE; exact absurd hE (hG24 _)
                rw [if_pos g32] at hE
                refine jr_iast jc jw k25 (j_g_in g32) dX10_tellParts_133 (fun H locs jw => ?_)
                obtain ⟨mm33, emm33, hE⟩ := j_lv hE
                rw [← emm33] at jw
                try dsimp only at hE
                refine lv_aload_n hx hb dX10_tellParts_134 rfl (lv_at hl 4 rfl) ?_
                refine lv_dup hx hb dX10_tellParts_135 rfl ?_
                refine jg_10_35 jc jw ho wd_6_94 dX10_tellParts_136 ?_
                refine lv_iconst (v := 1) hx hb dX10_tellParts_139 (by decide) ?_
                refine lv_iadd hx hb dX10_tellParts_140 ?_
                refine js_10_35 jc jw ho wd_6_94 dX10_tellParts_141 (fun H locs jw => ?_)
                obtain ⟨mm34, emm34, hE⟩ := j_lv hE
                rw [← emm34] at jw
                try dsimp only at hE
                exact J24 mm34  H locs ls hE jw (lv_sub hl [0, 1, 4] rfl)
              refine lv_icmp_gt (tgt := 79) hx hb dX10_tellParts_70 (by decide) (fun c22 => B35 _ _ jw (Or.inl c22)) (fun c22 => ?_)
              refine lv_iload hx hb dX10_tellParts_73 (lv_at hl 0 rfl) ?_
              refine lv_iload_n hx hb dX10_tellParts_75 rfl (lv_at hl 2 rfl) ?_
              refine lv_icmp_le (tgt := 144) hx hb dX10_tellParts_76 (by decide) (fun c23 => ?_) (fun c23 => B35 _ _ jw (Or.inr c23))
              rw [if_neg (fun hq => hq.elim (fun hq => (j_abs c22 hq)) (fun hq => (j_absn c23 hq)))] at hE
              exact J24 mm6  H locs ls hE jw (lv_sub hl [0, 1, 4] rfl)
            refine lv_if_eq (tgt := 60) hx hb dX10_tellParts_50 (by decide) (fun c17 => ?_) (fun c17 => ?_)
            · rw [if_pos c17] at hE
              refine lv_aload_n hx hb dX10_tellParts_60 rfl (lv_at hl 4 rfl) ?_
              refine jg_10_30 jc jw ho wd_6_89 dX10_tellParts_61 ?_
              have k19 := j_sub hY ho 30 (f := 100) rfl (by decide) (by decide) (by decide)
              refine lv_iload_n hx hb dX10_tellParts_64 rfl (lv_at hl 1 rfl) ?_
              rcases Classical.em (j_g vv5 (j_ln Y (j_rf Y o 30))) with g20 | g20
              case inr => rw [if_neg g20] at hE; exact absurd hE (hG18 _)
              rw [if_pos g20] at hE
              refine jr_iald jc jw k19 (j_g_in g20) dX10_tellParts_65 ?_
              exact J18 (mm6 (j_rf Y o 30) vv5.toNatClampNeg)  H locs ls hE jw (lv_sub hl [1, 2, 3, 4] rfl)
            · rw [if_neg c17] at hE
              refine lv_aload_n hx hb dX10_tellParts_53 rfl (lv_at hl 4 rfl) ?_
              refine jg_10_29 jc jw ho wd_6_88 dX10_tellParts_54 ?_
              refine lv_goto (tgt := 66) hx hb dX10_tellParts_57 (by decide) ?_
              exact J18 (mm6 o 29)  H locs ls hE jw (lv_sub hl [1, 2, 3, 4] rfl)
          refine lv_if_ne (tgt := 48) hx hb dX10_tellParts_36 (by decide) (fun c11 => ?_) (fun c11 => ?_)
          · rw [if_neg c11] at hE
            exact J13   H locs ls hE jw (lv_sub hl [0, 1, 2, 3, 4] rfl)
          · rw [if_pos c11] at hE
            refine lv_aload_n hx hb dX10_tellParts_39 rfl (lv_at hl 4 rfl) ?_
            refine jg_10_30 jc jw ho wd_6_89 dX10_tellParts_40 ?_
            have k14 := j_sub hY ho 30 (f := 100) rfl (by decide) (by decide) (by decide)
            refine lv_iload_n hx hb dX10_tellParts_43 rfl (lv_at hl 1 rfl) ?_
            rcases Classical.em (j_g vv5 (j_ln Y (j_rf Y o 30))) with g15 | g15
            case inr => rw [if_neg g15] at hE; exact absurd hE (hG13 _)
            rw [if_pos g15] at hE
            refine jr_iald jc jw k14 (j_g_in g15) dX10_tellParts_44 ?_
            refine lv_if_lt (tgt := 153) hx hb dX10_tellParts_45 (by decide) (fun c16 => ?_) (fun c16 => ?_)
            · rw [if_pos c16] at hE
              replace hE := j_popB eG13 hE
              try dsimp only at hE
              exact J12 vv3 vv4 mm6  H locs ls hE jw (lv_sub hl [1, 2, 3, 4] rfl)
            · rw [if_neg c16] at hE
              exact J13   H locs ls hE jw (lv_sub hl [0, 1, 2, 3, 4] rfl)
        refine lv_icmp_ne (tgt := 31) hx hb dX10_tellParts_24 (by decide) (fun c8 => ?_) (fun c8 => ?_)
        · rw [if_neg c8] at hE
          refine lv_iconst (v := 0) hx hb dX10_tellParts_31 (by decide) ?_
          exact J9 (0 : Int32)  H locs ls hE jw (lv_sub hl [0, 1, 2, 3] rfl)
        · rw [if_pos c8] at hE
          refine lv_iconst (v := 1) hx hb dX10_tellParts_27 (by decide) ?_
          refine lv_goto (tgt := 32) hx hb dX10_tellParts_28 (by decide) ?_
          exact J9 (1 : Int32)  H locs ls hE jw (lv_sub hl [0, 1, 2, 3] rfl)
  exact LP2 j_fuel (0 : Int32) (0 : Int32) (0 : Int32) mm1 H locs ls hE jw (lv_sub hl [0, 1, 2, 3] rfl)
def lp_X10_pairMany_1 (Y : JY) (M : JM) (o : Nat) (n : Nat) (vv2 : Int32) (vv3 : Int32) : Option (Int32) := match n with
  | 0 => none
  | n + 1 => if (M o 27) ≤ vv3 then (some vv2) else (if j_g vv3 (j_ln Y (j_rf Y o 30)) then (lt_ (if (M (j_rf Y o 30) vv3.toNatClampNeg) < 0 then ((0 : Int32)) else ((1 : Int32))) fun xx12 => lt_ (vv2 + xx12) fun vv10 => lt_ (vv3 + (1 : Int32)) fun vv11 => lp_X10_pairMany_1 Y M o n vv10 vv11) else none)
def s_X10_pairMany (Y : JY) (M : JM) (o : Nat) : Option (Int32) := (lp_X10_pairMany_1 Y M o j_fuel (0 : Int32) (0 : Int32)).bind fun xx13 => some xx13
set_option maxRecDepth 100000 in
set_option maxHeartbeats 4000000 in
theorem c_X10_pairMany {D : va_G} {Y : JY} {ty : Nat → ClassId} {ad : Nat → Nat} {sz : Nat} {l : Launch} {M : JM} (hY : j_ok Y) {o : Nat} (ho : j_kd Y o = 10) {r : Int32} (hE : s_X10_pairMany Y M o = some r) : JMi D Y ty ad sz l yX10_pairMany cX10_pairMany 3 (some .int) 0 0 [.ref (ad o)] M r M := by
  refine j_ofI hY (by decide +kernel) (Nat.le_of_ble_eq_true rfl) (fun p e s m below meth c args R Q A hRf hRl hA jc jw kr ls hl => ?_)
  have hx := jc.1
  have hb := jc.2.1
  have hl : lv_has ls 3 [(0, .ref (ad o))] := hl
  unfold s_X10_pairMany at hE
  obtain ⟨G0, eG0, hG0, hE⟩ := j_F0o hE
  refine lv_iconst (v := 0) hx hb dX10_pairMany_0 (by decide) ?_
  refine lv_istore_n (lv' := [(1, .int (0 : Int32)), (0, .ref (ad o))]) hx hb dX10_pairMany_1 rfl hl (by decide) rfl (fun ls hl => ?_)
  refine lv_iconst (v := 0) hx hb dX10_pairMany_2 (by decide) ?_
  refine lv_istore_n (lv' := [(2, .int (0 : Int32)), (1, .int (0 : Int32)), (0, .ref (ad o))]) hx hb dX10_pairMany_3 rfl hl (by decide) rfl (fun ls hl => ?_)
  obtain ⟨G1, eG1, hG1, hE⟩ := j_ctxB hG0 hE
  have LP1 : ∀ (n : Nat) (vv2 : Int32) (vv3 : Int32) (H : Heap) (locs : List Loc) (ls : Array Slot), G1 (lp_X10_pairMany_1 Y M o n vv2 vv3) = some r → JW D Y ty ad A s.heap M H locs → lv_has ls 3 [(2, .int vv3), (1, .int vv2), (0, .ref (ad o))] → W p l e R s m args below meth c H locs 0 0 Q (F0 m 4 ls []) := by
    intro n
    induction n with
    | zero => intro vv2 vv3 H locs ls hE jw hl; exact absurd hE (hG1 _)
    | succ n ih =>
      intro vv2 vv3 H locs ls hE jw hl
      rw [lp_X10_pairMany_1] at hE
      refine lv_iload_n hx hb dX10_pairMany_4 rfl (lv_at hl 0 rfl) ?_
      refine lv_aload_n hx hb dX10_pairMany_5 rfl (lv_at hl 2 rfl) ?_
      refine jg_10_27 jc jw ho wd_6_86 dX10_pairMany_6 ?_
      refine lv_icmp_ge (tgt := 35) hx hb dX10_pairMany_9 (by decide) (fun c4 => ?_) (fun c4 => ?_)
      · rw [if_pos c4] at hE
        refine lv_iload_n hx hb dX10_pairMany_35 rfl (lv_at hl 1 rfl) ?_
        replace hE := j_popB eG1 hE
        try dsimp only at hE
        exact kr _ _ _ _ _ _ (Option.some.inj (j_ret eG0 hE)) rfl jw dX10_pairMany_36
      · rw [if_neg c4] at hE
        refine lv_iload_n hx hb dX10_pairMany_12 rfl (lv_at hl 1 rfl) ?_
        refine lv_aload_n hx hb dX10_pairMany_13 rfl (lv_at hl 2 rfl) ?_
        refine jg_10_30 jc jw ho wd_6_89 dX10_pairMany_14 ?_
        have k5 := j_sub hY ho 30 (f := 100) rfl (by decide) (by decide) (by decide)
        refine lv_iload_n hx hb dX10_pairMany_17 rfl (lv_at hl 0 rfl) ?_
        rcases Classical.em (j_g vv3 (j_ln Y (j_rf Y o 30))) with g6 | g6
        case inr => rw [if_neg g6] at hE; exact absurd hE (hG1 _)
        rw [if_pos g6] at hE
        refine jr_iald jc jw k5 (j_g_in g6) dX10_pairMany_18 ?_
        obtain ⟨G8, eG8, hE⟩ := j_ctxL hE
        have J8 : ∀ (vv9 : Int32)  (H : Heap) (locs : List Loc) (ls : Array Slot), G8 (vv9) = some r → JW D Y ty ad A s.heap M H locs → lv_has ls 3 [(2, .int vv3), (0, .ref (ad o))] → W p l e R s m args below meth c H locs 0 0 Q (F0 m 27 ls [.int vv9, .int vv2]) := by
          intro vv9  H locs ls hE jw hl
          replace hE := j_popL eG8 hE
          try dsimp only at hE
          refine lv_iadd hx hb dX10_pairMany_27 ?_
          refine lv_topi (fun vv10 evv10 => ?_)
          replace hE := j_lu hE evv10
          try dsimp only at hE
          refine lv_istore_n (lv' := [(1, .int vv10), (2, .int vv3), (0, .ref (ad o))]) hx hb dX10_pairMany_28 rfl hl (by decide) rfl (fun ls hl => ?_)
          obtain ⟨vv11, evv11, hE⟩ := j_lv hE
          try dsimp only at hE
          refine lv_iinc (v := vv11) (lv' := [(2, .int vv11), (1, .int vv10), (0, .ref (ad o))]) hx hb dX10_pairMany_29 hl (k := 1) rfl (by rw [evv11]; rfl) (by decide) rfl (fun ls hl => ?_)
          refine lv_goto (tgt := 4) hx hb dX10_pairMany_32 (by decide) ?_
          exact ih vv10 vv11 H locs ls hE jw (lv_sub hl [0, 1, 2] rfl)
        refine lv_if_lt (tgt := 26) hx hb dX10_pairMany_19 (by decide) (fun c7 => ?_) (fun c7 => ?_)
        · rw [if_pos c7] at hE
          refine lv_iconst (v := 0) hx hb dX10_pairMany_26 (by decide) ?_
          exact J8 (0 : Int32)  H locs ls hE jw (lv_sub hl [0, 2] rfl)
        · rw [if_neg c7] at hE
          refine lv_iconst (v := 1) hx hb dX10_pairMany_22 (by decide) ?_
          refine lv_goto (tgt := 27) hx hb dX10_pairMany_23 (by decide) ?_
          exact J8 (1 : Int32)  H locs ls hE jw (lv_sub hl [0, 2] rfl)
  exact LP1 j_fuel (0 : Int32) (0 : Int32) s.heap [] ls hE jw (lv_sub hl [0, 1, 2] rfl)
def s_X10_compare (Y : JY) (M : JM) (o : Nat) (p1 : Int32) (p2 : Int32) : Option (Int32 × JM) := if (s_X10_isRegister Y M p1) = 0 ∨ (s_X10_isRegister Y M p2) = 0 then (lt_ (s_X10_fails Y M o (1 : Int32)) fun xx5 => some (xx5.1, xx5.2)) else (lt_ (j_up M o 25 (1 : Int32)) fun mm6 => (s_X10_takes Y mm6 o p1 (j_rf Y o 26)).bind fun xx8 => lt_ (j_up xx8.2 o 27 xx8.1) fun mm9 => (s_X10_takes Y mm9 o p2 (j_rf Y o 28)).bind fun xx11 => lt_ (j_up xx11.2 o 29 xx11.1) fun mm12 => (s_X10_aligns Y mm12 o (j_rf Y o 26) (mm12 o 27) (j_rf Y o 28) (mm12 o 29) (j_rf Y o 30)).bind fun xx14 => lt_ (j_up xx14 o 31 (xx14 o 22)) fun mm15 => lt_ (j_up mm15 o 33 (0 : Int32)) fun mm16 => (s_X10_tellParts Y mm16 o).bind fun xx17 => (s_X10_pairMany Y xx17 o).bind fun xx18 => lt_ (s_X10_done Y xx17 o xx18) fun xx19 => some (xx19.1, xx19.2))
set_option maxRecDepth 100000 in
set_option maxHeartbeats 4000000 in
theorem c_X10_compare {D : va_G} {Y : JY} {ty : Nat → ClassId} {ad : Nat → Nat} {sz : Nat} {l : Launch} {M : JM} (hY : j_ok Y) {o : Nat} {p1 : Int32} {p2 : Int32} (ho : j_kd Y o = 10) {r : Int32 × JM} (hE : s_X10_compare Y M o p1 p2 = some r) : JMi D Y ty ad sz l yX10_compare cX10_compare 3 (some .int) 4 111 [.ref (ad o), .int p1, .int p2] M r.1 r.2 := by
  refine j_ofI hY (by decide +kernel) (Nat.le_of_ble_eq_true rfl) (fun p e s m below meth c args R Q A hRf hRl hA jc jw kr ls hl => ?_)
  have hx := jc.1
  have hb := jc.2.1
  have hl : lv_has ls 3 [(0, .ref (ad o)), (1, .int p1), (2, .int p2)] := hl
  unfold s_X10_compare at hE
  obtain ⟨G0, eG0, hG0, hE⟩ := j_F0o hE
  refine lv_iload_n hx hb dX10_compare_0 rfl (lv_at hl 1 rfl) ?_
  refine jc_sz [.int p1] [] jc jw hA (c_X10_isRegister hY  (M := M) rfl) sd_X10_126 rfl hl.1 (j_hR hRf hRl rfl rfl) (Nat.le_of_ble_eq_true rfl) dX10_compare_1 (fun H locs jw hz => ?_)
  have z_1 := hz
  have B20 : ∀ (H : Heap) (locs : List Loc), JW D Y ty ad A s.heap M H locs → ((s_X10_isRegister Y M p1) = 0 ∨ (s_X10_isRegister Y M p2) = 0) → W p l e R s m args below meth c H locs 0 0 Q (F0 m 14 ls []) := by
    intro H locs jw hcc
    rw [if_pos hcc] at hE
    refine lv_aload_n hx hb dX10_compare_14 rfl (lv_at hl 0 rfl) ?_
    refine lv_iconst (v := 1) hx hb dX10_compare_15 (by decide) ?_
    obtain ⟨xx5, exx5, hE⟩ := j_lv hE
    try dsimp only at hE
    refine jc_vi [.int (1 : Int32)] [] jc jw hA ho (by decide) rfl (c_X10_fails hY ho (M := M) exx5.symm) sd_X10_130 rfl hl.1 (j_hR hRf hRl rfl rfl) (Nat.le_of_ble_eq_true rfl) dX10_compare_16 (fun H locs jw => ?_)
    exact kr _ _ _ _ _ _ (congrArg Prod.fst (Option.some.inj (j_ret eG0 hE))) (congrArg Prod.snd (Option.some.inj (j_ret eG0 hE))) jw dX10_compare_19
  refine lv_if_eq (tgt := 14) hx hb dX10_compare_4 (by decide) (fun c2 => B20 _ _ jw (Or.inl c2)) (fun c2 => ?_)
  refine lv_iload_n hx hb dX10_compare_7 rfl (lv_at hl 2 rfl) ?_
  refine jc_sz [.int p2] [] jc jw hA (c_X10_isRegister hY  (M := M) rfl) sd_X10_126 rfl hl.1 (j_hR hRf hRl rfl rfl) (Nat.le_of_ble_eq_true rfl) dX10_compare_8 (fun H locs jw hz => ?_)
  have z_3 := hz
  refine lv_if_ne (tgt := 20) hx hb dX10_compare_11 (by decide) (fun c4 => ?_) (fun c4 => B20 _ _ jw (Or.inr c4))
  rw [if_neg (fun hq => hq.elim (fun hq => (j_abs c2 hq)) (fun hq => (j_abs c4 hq)))] at hE
  refine lv_aload_n hx hb dX10_compare_20 rfl (lv_at hl 0 rfl) ?_
  refine lv_iconst (v := 1) hx hb dX10_compare_21 (by decide) ?_
  refine js_10_25 jc jw ho wd_6_84 (by decide) dX10_compare_22 (fun H locs jw => ?_)
  obtain ⟨mm6, emm6, hE⟩ := j_lv hE
  rw [← emm6] at jw
  try dsimp only at hE
  refine lv_aload_n hx hb dX10_compare_25 rfl (lv_at hl 0 rfl) ?_
  refine lv_aload_n hx hb dX10_compare_26 rfl (lv_at hl 0 rfl) ?_
  refine lv_iload_n hx hb dX10_compare_27 rfl (lv_at hl 1 rfl) ?_
  refine lv_aload_n hx hb dX10_compare_28 rfl (lv_at hl 0 rfl) ?_
  refine jg_10_26 jc jw ho wd_6_85 dX10_compare_29 ?_
  have k7 := j_sub hY ho 26 (f := 100) rfl (by decide) (by decide) (by decide)
  obtain ⟨xx8, exx8, hE⟩ := j_bd hG0 hE
  try dsimp only at hE
  refine jc_vi [.int p1, .ref (ad (j_rf Y o 26))] [.ref (ad o)] jc jw hA ho (by decide) rfl (c_X10_takes hY ho k7 (M := mm6) exx8) sd_X10_207 rfl hl.1 (j_hR hRf hRl rfl rfl) (Nat.le_of_ble_eq_true rfl) dX10_compare_32 (fun H locs jw => ?_)
  refine js_10_27 jc jw ho wd_6_86 dX10_compare_35 (fun H locs jw => ?_)
  obtain ⟨mm9, emm9, hE⟩ := j_lv hE
  rw [← emm9] at jw
  try dsimp only at hE
  refine lv_aload_n hx hb dX10_compare_38 rfl (lv_at hl 0 rfl) ?_
  refine lv_aload_n hx hb dX10_compare_39 rfl (lv_at hl 0 rfl) ?_
  refine lv_iload_n hx hb dX10_compare_40 rfl (lv_at hl 2 rfl) ?_
  refine lv_aload_n hx hb dX10_compare_41 rfl (lv_at hl 0 rfl) ?_
  refine jg_10_28 jc jw ho wd_6_87 dX10_compare_42 ?_
  have k10 := j_sub hY ho 28 (f := 100) rfl (by decide) (by decide) (by decide)
  obtain ⟨xx11, exx11, hE⟩ := j_bd hG0 hE
  try dsimp only at hE
  refine jc_vi [.int p2, .ref (ad (j_rf Y o 28))] [.ref (ad o)] jc jw hA ho (by decide) rfl (c_X10_takes hY ho k10 (M := mm9) exx11) sd_X10_207 rfl hl.1 (j_hR hRf hRl rfl rfl) (Nat.le_of_ble_eq_true rfl) dX10_compare_45 (fun H locs jw => ?_)
  refine js_10_29 jc jw ho wd_6_88 dX10_compare_48 (fun H locs jw => ?_)
  obtain ⟨mm12, emm12, hE⟩ := j_lv hE
  rw [← emm12] at jw
  try dsimp only at hE
  refine lv_aload_n hx hb dX10_compare_51 rfl (lv_at hl 0 rfl) ?_
  refine lv_aload_n hx hb dX10_compare_52 rfl (lv_at hl 0 rfl) ?_
  refine jg_10_26 jc jw ho wd_6_85 dX10_compare_53 ?_
  refine lv_aload_n hx hb dX10_compare_56 rfl (lv_at hl 0 rfl) ?_
  refine jg_10_27 jc jw ho wd_6_86 dX10_compare_57 ?_
  refine lv_aload_n hx hb dX10_compare_60 rfl (lv_at hl 0 rfl) ?_
  refine jg_10_28 jc jw ho wd_6_87 dX10_compare_61 ?_
  refine lv_aload_n hx hb dX10_compare_64 rfl (lv_at hl 0 rfl) ?_
  refine jg_10_29 jc jw ho wd_6_88 dX10_compare_65 ?_
  refine lv_aload_n hx hb dX10_compare_68 rfl (lv_at hl 0 rfl) ?_
  refine jg_10_30 jc jw ho wd_6_89 dX10_compare_69 ?_
  have k13 := j_sub hY ho 30 (f := 100) rfl (by decide) (by decide) (by decide)
  obtain ⟨xx14, exx14, hE⟩ := j_bd hG0 hE
  try dsimp only at hE
  refine jc_vv [.ref (ad (j_rf Y o 26)), .int (mm12 o 27), .ref (ad (j_rf Y o 28)), .int (mm12 o 29), .ref (ad (j_rf Y o 30))] [] jc jw hA ho (by decide) rfl (c_X10_aligns hY ho k7 k10 k13 (M := mm12) exx14) sd_X10_223 rfl hl.1 (j_hR hRf hRl rfl rfl) (Nat.le_of_ble_eq_true rfl) dX10_compare_72 (fun H locs jw => ?_)
  refine lv_aload_n hx hb dX10_compare_75 rfl (lv_at hl 0 rfl) ?_
  refine lv_aload_n hx hb dX10_compare_76 rfl (lv_at hl 0 rfl) ?_
  refine jg_10_22 jc jw ho wd_6_81 dX10_compare_77 ?_
  refine js_10_31 jc jw ho wd_6_90 dX10_compare_80 (fun H locs jw => ?_)
  obtain ⟨mm15, emm15, hE⟩ := j_lv hE
  rw [← emm15] at jw
  try dsimp only at hE
  refine lv_aload_n hx hb dX10_compare_83 rfl (lv_at hl 0 rfl) ?_
  refine lv_iconst (v := 0) hx hb dX10_compare_84 (by decide) ?_
  refine js_10_33 jc jw ho wd_6_92 dX10_compare_85 (fun H locs jw => ?_)
  obtain ⟨mm16, emm16, hE⟩ := j_lv hE
  rw [← emm16] at jw
  try dsimp only at hE
  refine lv_aload_n hx hb dX10_compare_88 rfl (lv_at hl 0 rfl) ?_
  obtain ⟨xx17, exx17, hE⟩ := j_bd hG0 hE
  try dsimp only at hE
  refine jc_vv [] [] jc jw hA ho (by decide) rfl (c_X10_tellParts hY ho (M := mm16) exx17) sd_X10_233 rfl hl.1 (j_hR hRf hRl rfl rfl) (Nat.le_of_ble_eq_true rfl) dX10_compare_89 (fun H locs jw => ?_)
  refine lv_aload_n hx hb dX10_compare_92 rfl (lv_at hl 0 rfl) ?_
  refine lv_aload_n hx hb dX10_compare_93 rfl (lv_at hl 0 rfl) ?_
  obtain ⟨xx18, exx18, hE⟩ := j_bd hG0 hE
  try dsimp only at hE
  refine jc_vi [] [.ref (ad o)] jc jw hA ho (by decide) rfl (c_X10_pairMany hY ho (M := xx17) exx18) sd_X10_236 rfl hl.1 (j_hR hRf hRl rfl rfl) (Nat.le_of_ble_eq_true rfl) dX10_compare_94 (fun H locs jw => ?_)
  obtain ⟨xx19, exx19, hE⟩ := j_lv hE
  try dsimp only at hE
  refine jc_vi [.int xx18] [] jc jw hA ho (by decide) rfl (c_X10_done hY ho (M := xx17) exx19.symm) sd_X10_138 rfl hl.1 (j_hR hRf hRl rfl rfl) (Nat.le_of_ble_eq_true rfl) dX10_compare_97 (fun H locs jw => ?_)
  exact kr _ _ _ _ _ _ (congrArg Prod.fst (Option.some.inj (j_ret eG0 hE))) (congrArg Prod.snd (Option.some.inj (j_ret eG0 hE))) jw dX10_compare_100
def s_X10_partner (Y : JY) (M : JM) (o : Nat) (p1 : Int32) : Option (Int32 × JM) := if (j_z (M o 25)) = 0 then (lt_ (s_X10_fails Y M o (1 : Int32)) fun xx2 => some (xx2.1, xx2.2)) else (if (s_X10_in Y M p1 (0 : Int32) ((M o 27) - (1 : Int32))) = 0 then (lt_ (s_X10_fails Y M o (2 : Int32)) fun xx5 => some (xx5.1, xx5.2)) else (if j_g p1 (j_ln Y (j_rf Y o 30)) then (lt_ (s_X10_done Y M o (M (j_rf Y o 30) p1.toNatClampNeg)) fun xx8 => some (xx8.1, xx8.2)) else none))
set_option maxRecDepth 100000 in
set_option maxHeartbeats 4000000 in
theorem c_X10_partner {D : va_G} {Y : JY} {ty : Nat → ClassId} {ad : Nat → Nat} {sz : Nat} {l : Launch} {M : JM} (hY : j_ok Y) {o : Nat} {p1 : Int32} (ho : j_kd Y o = 10) {r : Int32 × JM} (hE : s_X10_partner Y M o p1 = some r) : JMi D Y ty ad sz l yX10_partner cX10_partner 2 (some .int) 1 22 [.ref (ad o), .int p1] M r.1 r.2 := by
  refine j_ofI hY (by decide +kernel) (Nat.le_of_ble_eq_true rfl) (fun p e s m below meth c args R Q A hRf hRl hA jc jw kr ls hl => ?_)
  have hx := jc.1
  have hb := jc.2.1
  have hl : lv_has ls 2 [(0, .ref (ad o)), (1, .int p1)] := hl
  unfold s_X10_partner at hE
  obtain ⟨G0, eG0, hG0, hE⟩ := j_F0o hE
  refine lv_aload_n hx hb dX10_partner_0 rfl (lv_at hl 0 rfl) ?_
  refine jg_10_25 jc jw ho wd_6_84 dX10_partner_1 ?_
  refine lv_if_ne (tgt := 13) hx hb dX10_partner_4 (by decide) (fun c1 => ?_) (fun c1 => ?_)
  · rw [if_neg c1] at hE
    refine lv_iload_n hx hb dX10_partner_13 rfl (lv_at hl 1 rfl) ?_
    refine lv_iconst (v := 0) hx hb dX10_partner_14 (by decide) ?_
    refine lv_aload_n hx hb dX10_partner_15 rfl (lv_at hl 0 rfl) ?_
    refine jg_10_27 jc jw ho wd_6_86 dX10_partner_16 ?_
    refine lv_iconst (v := 1) hx hb dX10_partner_19 (by decide) ?_
    refine lv_isub hx hb dX10_partner_20 ?_
    refine jc_sz [.int p1, .int (0 : Int32), .int ((M o 27) - (1 : Int32))] [] jc jw hA (c_X10_in hY  (M := M) rfl) sd_X10_119 rfl hl.1 (j_hR hRf hRl rfl rfl) (Nat.le_of_ble_eq_true rfl) dX10_partner_21 (fun H locs jw hz => ?_)
    have z_3 := hz
    refine lv_if_eq (tgt := 40) hx hb dX10_partner_24 (by decide) (fun c4 => ?_) (fun c4 => ?_)
    · rw [if_pos c4] at hE
      refine lv_aload_n hx hb dX10_partner_40 rfl (lv_at hl 0 rfl) ?_
      refine lv_iconst (v := 2) hx hb dX10_partner_41 (by decide) ?_
      obtain ⟨xx5, exx5, hE⟩ := j_lv hE
      try dsimp only at hE
      refine jc_vi [.int (2 : Int32)] [] jc jw hA ho (by decide) rfl (c_X10_fails hY ho (M := M) exx5.symm) sd_X10_130 rfl hl.1 (j_hR hRf hRl rfl rfl) (Nat.le_of_ble_eq_true rfl) dX10_partner_42 (fun H locs jw => ?_)
      exact kr _ _ _ _ _ _ (congrArg Prod.fst (Option.some.inj (j_ret eG0 hE))) (congrArg Prod.snd (Option.some.inj (j_ret eG0 hE))) jw dX10_partner_45
    · rw [if_neg c4] at hE
      refine lv_aload_n hx hb dX10_partner_27 rfl (lv_at hl 0 rfl) ?_
      refine lv_aload_n hx hb dX10_partner_28 rfl (lv_at hl 0 rfl) ?_
      refine jg_10_30 jc jw ho wd_6_89 dX10_partner_29 ?_
      have k6 := j_sub hY ho 30 (f := 100) rfl (by decide) (by decide) (by decide)
      refine lv_iload_n hx hb dX10_partner_32 rfl (lv_at hl 1 rfl) ?_
      rcases Classical.em (j_g p1 (j_ln Y (j_rf Y o 30))) with g7 | g7
      case inr => rw [if_neg g7] at hE; exact absurd hE (hG0 _)
      rw [if_pos g7] at hE
      refine jr_iald jc jw k6 (j_g_in g7) dX10_partner_33 ?_
      obtain ⟨xx8, exx8, hE⟩ := j_lv hE
      try dsimp only at hE
      refine jc_vi [.int (M (j_rf Y o 30) p1.toNatClampNeg)] [] jc jw hA ho (by decide) rfl (c_X10_done hY ho (M := M) exx8.symm) sd_X10_138 rfl hl.1 (j_hR hRf hRl rfl rfl) (Nat.le_of_ble_eq_true rfl) dX10_partner_34 (fun H locs jw => ?_)
      refine lv_goto (tgt := 45) hx hb dX10_partner_37 (by decide) ?_
      exact kr _ _ _ _ _ _ (congrArg Prod.fst (Option.some.inj (j_ret eG0 hE))) (congrArg Prod.snd (Option.some.inj (j_ret eG0 hE))) jw dX10_partner_45
  · rw [if_pos c1] at hE
    refine lv_aload_n hx hb dX10_partner_7 rfl (lv_at hl 0 rfl) ?_
    refine lv_iconst (v := 1) hx hb dX10_partner_8 (by decide) ?_
    obtain ⟨xx2, exx2, hE⟩ := j_lv hE
    try dsimp only at hE
    refine jc_vi [.int (1 : Int32)] [] jc jw hA ho (by decide) rfl (c_X10_fails hY ho (M := M) exx2.symm) sd_X10_130 rfl hl.1 (j_hR hRf hRl rfl rfl) (Nat.le_of_ble_eq_true rfl) dX10_partner_9 (fun H locs jw => ?_)
    exact kr _ _ _ _ _ _ (congrArg Prod.fst (Option.some.inj (j_ret eG0 hE))) (congrArg Prod.snd (Option.some.inj (j_ret eG0 hE))) jw dX10_partner_12
def s_X10_anchors (Y : JY) (M : JM) (o : Nat) : Int32 × JM := if (j_z (M o 25)) = 0 then (lt_ (s_X10_fails Y M o (1 : Int32)) fun xx2 => (xx2.1, xx2.2)) else (lt_ (s_X10_done Y M o (M o 31)) fun xx3 => (xx3.1, xx3.2))
set_option maxRecDepth 100000 in
set_option maxHeartbeats 4000000 in
theorem c_X10_anchors {D : va_G} {Y : JY} {ty : Nat → ClassId} {ad : Nat → Nat} {sz : Nat} {l : Launch} {M : JM} (hY : j_ok Y) {o : Nat} (ho : j_kd Y o = 10) {r : Int32 × JM} (hE : s_X10_anchors Y M o = r) : JMi D Y ty ad sz l yX10_anchors cX10_anchors 1 (some .int) 1 21 [.ref (ad o)] M r.1 r.2 := by
  refine j_ofI hY (by decide +kernel) (Nat.le_of_ble_eq_true rfl) (fun p e s m below meth c args R Q A hRf hRl hA jc jw kr ls hl => ?_)
  have hx := jc.1
  have hb := jc.2.1
  have hl : lv_has ls 1 [(0, .ref (ad o))] := hl
  unfold s_X10_anchors at hE
  obtain ⟨G0, eG0, hE⟩ := j_F0 hE
  refine lv_aload_n hx hb dX10_anchors_0 rfl (lv_at hl 0 rfl) ?_
  refine jg_10_25 jc jw ho wd_6_84 dX10_anchors_1 ?_
  refine lv_if_eq (tgt := 18) hx hb dX10_anchors_4 (by decide) (fun c1 => ?_) (fun c1 => ?_)
  · rw [if_pos c1] at hE
    refine lv_aload_n hx hb dX10_anchors_18 rfl (lv_at hl 0 rfl) ?_
    refine lv_iconst (v := 1) hx hb dX10_anchors_19 (by decide) ?_
    obtain ⟨xx2, exx2, hE⟩ := j_lv hE
    try dsimp only at hE
    refine jc_vi [.int (1 : Int32)] [] jc jw hA ho (by decide) rfl (c_X10_fails hY ho (M := M) exx2.symm) sd_X10_130 rfl hl.1 (j_hR hRf hRl rfl rfl) (Nat.le_of_ble_eq_true rfl) dX10_anchors_20 (fun H locs jw => ?_)
    exact kr _ _ _ _ _ _ (congrArg Prod.fst (j_ret eG0 hE)) (congrArg Prod.snd (j_ret eG0 hE)) jw dX10_anchors_23
  · rw [if_neg c1] at hE
    refine lv_aload_n hx hb dX10_anchors_7 rfl (lv_at hl 0 rfl) ?_
    refine lv_aload_n hx hb dX10_anchors_8 rfl (lv_at hl 0 rfl) ?_
    refine jg_10_31 jc jw ho wd_6_90 dX10_anchors_9 ?_
    obtain ⟨xx3, exx3, hE⟩ := j_lv hE
    try dsimp only at hE
    refine jc_vi [.int (M o 31)] [] jc jw hA ho (by decide) rfl (c_X10_done hY ho (M := M) exx3.symm) sd_X10_138 rfl hl.1 (j_hR hRf hRl rfl rfl) (Nat.le_of_ble_eq_true rfl) dX10_anchors_12 (fun H locs jw => ?_)
    refine lv_goto (tgt := 23) hx hb dX10_anchors_15 (by decide) ?_
    exact kr _ _ _ _ _ _ (congrArg Prod.fst (j_ret eG0 hE)) (congrArg Prod.snd (j_ret eG0 hE)) jw dX10_anchors_23
def s_X10_differences (Y : JY) (M : JM) (o : Nat) : Int32 × JM := if (j_z (M o 25)) = 0 then (lt_ (s_X10_fails Y M o (1 : Int32)) fun xx2 => (xx2.1, xx2.2)) else (lt_ (s_X10_done Y M o (M o 35)) fun xx3 => (xx3.1, xx3.2))
set_option maxRecDepth 100000 in
set_option maxHeartbeats 4000000 in
theorem c_X10_differences {D : va_G} {Y : JY} {ty : Nat → ClassId} {ad : Nat → Nat} {sz : Nat} {l : Launch} {M : JM} (hY : j_ok Y) {o : Nat} (ho : j_kd Y o = 10) {r : Int32 × JM} (hE : s_X10_differences Y M o = r) : JMi D Y ty ad sz l yX10_differences cX10_differences 1 (some .int) 1 21 [.ref (ad o)] M r.1 r.2 := by
  refine j_ofI hY (by decide +kernel) (Nat.le_of_ble_eq_true rfl) (fun p e s m below meth c args R Q A hRf hRl hA jc jw kr ls hl => ?_)
  have hx := jc.1
  have hb := jc.2.1
  have hl : lv_has ls 1 [(0, .ref (ad o))] := hl
  unfold s_X10_differences at hE
  obtain ⟨G0, eG0, hE⟩ := j_F0 hE
  refine lv_aload_n hx hb dX10_differences_0 rfl (lv_at hl 0 rfl) ?_
  refine jg_10_25 jc jw ho wd_6_84 dX10_differences_1 ?_
  refine lv_if_eq (tgt := 18) hx hb dX10_differences_4 (by decide) (fun c1 => ?_) (fun c1 => ?_)
  · rw [if_pos c1] at hE
    refine lv_aload_n hx hb dX10_differences_18 rfl (lv_at hl 0 rfl) ?_
    refine lv_iconst (v := 1) hx hb dX10_differences_19 (by decide) ?_
    obtain ⟨xx2, exx2, hE⟩ := j_lv hE
    try dsimp only at hE
    refine jc_vi [.int (1 : Int32)] [] jc jw hA ho (by decide) rfl (c_X10_fails hY ho (M := M) exx2.symm) sd_X10_130 rfl hl.1 (j_hR hRf hRl rfl rfl) (Nat.le_of_ble_eq_true rfl) dX10_differences_20 (fun H locs jw => ?_)
    exact kr _ _ _ _ _ _ (congrArg Prod.fst (j_ret eG0 hE)) (congrArg Prod.snd (j_ret eG0 hE)) jw dX10_differences_23
  · rw [if_neg c1] at hE
    refine lv_aload_n hx hb dX10_differences_7 rfl (lv_at hl 0 rfl) ?_
    refine lv_aload_n hx hb dX10_differences_8 rfl (lv_at hl 0 rfl) ?_
    refine jg_10_35 jc jw ho wd_6_94 dX10_differences_9 ?_
    obtain ⟨xx3, exx3, hE⟩ := j_lv hE
    try dsimp only at hE
    refine jc_vi [.int (M o 35)] [] jc jw hA ho (by decide) rfl (c_X10_done hY ho (M := M) exx3.symm) sd_X10_138 rfl hl.1 (j_hR hRf hRl rfl rfl) (Nat.le_of_ble_eq_true rfl) dX10_differences_12 (fun H locs jw => ?_)
    refine lv_goto (tgt := 23) hx hb dX10_differences_15 (by decide) ?_
    exact kr _ _ _ _ _ _ (congrArg Prod.fst (j_ret eG0 hE)) (congrArg Prod.snd (j_ret eG0 hE)) jw dX10_differences_23
def s_X10_difference (Y : JY) (M : JM) (o : Nat) (p1 : Int32) (p2 : Int32) : Option (Int32 × JM) := if (j_z (M o 25)) = 0 then (lt_ (s_X10_fails Y M o (1 : Int32)) fun xx2 => some (xx2.1, xx2.2)) else (if (s_X10_in Y M p1 (0 : Int32) ((M o 35) - (1 : Int32))) = 0 then (lt_ (s_X10_fails Y M o (2 : Int32)) fun xx5 => some (xx5.1, xx5.2)) else (if (s_X10_in Y M p2 (0 : Int32) (3 : Int32)) = 0 then (lt_ (s_X10_fails Y M o (3 : Int32)) fun xx8 => some (xx8.1, xx8.2)) else (if j_g (((4 : Int32) * p1) + p2) (j_ln Y (j_rf Y o 34)) then (lt_ (s_X10_done Y M o (M (j_rf Y o 34) (((4 : Int32) * p1) + p2).toNatClampNeg)) fun xx11 => some (xx11.1, xx11.2)) else none)))
set_option maxRecDepth 100000 in
set_option maxHeartbeats 4000000 in
theorem c_X10_difference {D : va_G} {Y : JY} {ty : Nat → ClassId} {ad : Nat → Nat} {sz : Nat} {l : Launch} {M : JM} (hY : j_ok Y) {o : Nat} {p1 : Int32} {p2 : Int32} (ho : j_kd Y o = 10) {r : Int32 × JM} (hE : s_X10_difference Y M o p1 p2 = some r) : JMi D Y ty ad sz l yX10_difference cX10_difference 3 (some .int) 1 22 [.ref (ad o), .int p1, .int p2] M r.1 r.2 := by
  refine j_ofI hY (by decide +kernel) (Nat.le_of_ble_eq_true rfl) (fun p e s m below meth c args R Q A hRf hRl hA jc jw kr ls hl => ?_)
  have hx := jc.1
  have hb := jc.2.1
  have hl : lv_has ls 3 [(0, .ref (ad o)), (1, .int p1), (2, .int p2)] := hl
  unfold s_X10_difference at hE
  obtain ⟨G0, eG0, hG0, hE⟩ := j_F0o hE
  refine lv_aload_n hx hb dX10_difference_0 rfl (lv_at hl 0 rfl) ?_
  refine jg_10_25 jc jw ho wd_6_84 dX10_difference_1 ?_
  refine lv_if_ne (tgt := 13) hx hb dX10_difference_4 (by decide) (fun c1 => ?_) (fun c1 => ?_)
  · rw [if_neg c1] at hE
    refine lv_iload_n hx hb dX10_difference_13 rfl (lv_at hl 1 rfl) ?_
    refine lv_iconst (v := 0) hx hb dX10_difference_14 (by decide) ?_
    refine lv_aload_n hx hb dX10_difference_15 rfl (lv_at hl 0 rfl) ?_
    refine jg_10_35 jc jw ho wd_6_94 dX10_difference_16 ?_
    refine lv_iconst (v := 1) hx hb dX10_difference_19 (by decide) ?_
    refine lv_isub hx hb dX10_difference_20 ?_
    refine jc_sz [.int p1, .int (0 : Int32), .int ((M o 35) - (1 : Int32))] [] jc jw hA (c_X10_in hY  (M := M) rfl) sd_X10_119 rfl hl.1 (j_hR hRf hRl rfl rfl) (Nat.le_of_ble_eq_true rfl) dX10_difference_21 (fun H locs jw hz => ?_)
    have z_3 := hz
    refine lv_if_ne (tgt := 33) hx hb dX10_difference_24 (by decide) (fun c4 => ?_) (fun c4 => ?_)
    · rw [if_neg c4] at hE
      refine lv_iload_n hx hb dX10_difference_33 rfl (lv_at hl 2 rfl) ?_
      refine lv_iconst (v := 0) hx hb dX10_difference_34 (by decide) ?_
      refine lv_iconst (v := 3) hx hb dX10_difference_35 (by decide) ?_
      refine jc_sz [.int p2, .int (0 : Int32), .int (3 : Int32)] [] jc jw hA (c_X10_in hY  (M := M) rfl) sd_X10_119 rfl hl.1 (j_hR hRf hRl rfl rfl) (Nat.le_of_ble_eq_true rfl) dX10_difference_36 (fun H locs jw hz => ?_)
      have z_6 := hz
      refine lv_if_eq (tgt := 59) hx hb dX10_difference_39 (by decide) (fun c7 => ?_) (fun c7 => ?_)
      · rw [if_pos c7] at hE
        refine lv_aload_n hx hb dX10_difference_59 rfl (lv_at hl 0 rfl) ?_
        refine lv_iconst (v := 3) hx hb dX10_difference_60 (by decide) ?_
        obtain ⟨xx8, exx8, hE⟩ := j_lv hE
        try dsimp only at hE
        refine jc_vi [.int (3 : Int32)] [] jc jw hA ho (by decide) rfl (c_X10_fails hY ho (M := M) exx8.symm) sd_X10_130 rfl hl.1 (j_hR hRf hRl rfl rfl) (Nat.le_of_ble_eq_true rfl) dX10_difference_61 (fun H locs jw => ?_)
        exact kr _ _ _ _ _ _ (congrArg Prod.fst (Option.some.inj (j_ret eG0 hE))) (congrArg Prod.snd (Option.some.inj (j_ret eG0 hE))) jw dX10_difference_64
      · rw [if_neg c7] at hE
        refine lv_aload_n hx hb dX10_difference_42 rfl (lv_at hl 0 rfl) ?_
        refine lv_aload_n hx hb dX10_difference_43 rfl (lv_at hl 0 rfl) ?_
        refine jg_10_34 jc jw ho wd_6_93 dX10_difference_44 ?_
        have k9 := j_sub hY ho 34 (f := 100) rfl (by decide) (by decide) (by decide)
        refine lv_iconst (v := 4) hx hb dX10_difference_47 (by decide) ?_
        refine lv_iload_n hx hb dX10_difference_48 rfl (lv_at hl 1 rfl) ?_
        refine lv_imul hx hb dX10_difference_49 ?_
        refine lv_iload_n hx hb dX10_difference_50 rfl (lv_at hl 2 rfl) ?_
        refine lv_iadd hx hb dX10_difference_51 ?_
        rcases Classical.em (j_g (((4 : Int32) * p1) + p2) (j_ln Y (j_rf Y o 34))) with g10 | g10
        case inr => rw [if_neg g10] at hE; exact absurd hE (hG0 _)
        rw [if_pos g10] at hE
        refine jr_iald jc jw k9 (j_g_in g10) dX10_difference_52 ?_
        obtain ⟨xx11, exx11, hE⟩ := j_lv hE
        try dsimp only at hE
        refine jc_vi [.int (M (j_rf Y o 34) (((4 : Int32) * p1) + p2).toNatClampNeg)] [] jc jw hA ho (by decide) rfl (c_X10_done hY ho (M := M) exx11.symm) sd_X10_138 rfl hl.1 (j_hR hRf hRl rfl rfl) (Nat.le_of_ble_eq_true rfl) dX10_difference_53 (fun H locs jw => ?_)
        refine lv_goto (tgt := 64) hx hb dX10_difference_56 (by decide) ?_
        exact kr _ _ _ _ _ _ (congrArg Prod.fst (Option.some.inj (j_ret eG0 hE))) (congrArg Prod.snd (Option.some.inj (j_ret eG0 hE))) jw dX10_difference_64
    · rw [if_pos c4] at hE
      refine lv_aload_n hx hb dX10_difference_27 rfl (lv_at hl 0 rfl) ?_
      refine lv_iconst (v := 2) hx hb dX10_difference_28 (by decide) ?_
      obtain ⟨xx5, exx5, hE⟩ := j_lv hE
      try dsimp only at hE
      refine jc_vi [.int (2 : Int32)] [] jc jw hA ho (by decide) rfl (c_X10_fails hY ho (M := M) exx5.symm) sd_X10_130 rfl hl.1 (j_hR hRf hRl rfl rfl) (Nat.le_of_ble_eq_true rfl) dX10_difference_29 (fun H locs jw => ?_)
      exact kr _ _ _ _ _ _ (congrArg Prod.fst (Option.some.inj (j_ret eG0 hE))) (congrArg Prod.snd (Option.some.inj (j_ret eG0 hE))) jw dX10_difference_32
  · rw [if_pos c1] at hE
    refine lv_aload_n hx hb dX10_difference_7 rfl (lv_at hl 0 rfl) ?_
    refine lv_iconst (v := 1) hx hb dX10_difference_8 (by decide) ?_
    obtain ⟨xx2, exx2, hE⟩ := j_lv hE
    try dsimp only at hE
    refine jc_vi [.int (1 : Int32)] [] jc jw hA ho (by decide) rfl (c_X10_fails hY ho (M := M) exx2.symm) sd_X10_130 rfl hl.1 (j_hR hRf hRl rfl rfl) (Nat.le_of_ble_eq_true rfl) dX10_difference_9 (fun H locs jw => ?_)
    exact kr _ _ _ _ _ _ (congrArg Prod.fst (Option.some.inj (j_ret eG0 hE))) (congrArg Prod.snd (Option.some.inj (j_ret eG0 hE))) jw dX10_difference_12
def lp_X10_step_1 (Y : JY) (M : JM) (o : Nat) (p1 : Int32) (n : Nat) (vv4 : Int32) (vv5 : Int32) (vv6 : Int32) : Option ((Unit) ⊕ (Int32)) := match n with
  | 0 => none
  | n + 1 => if vv6 < (M o 27) ∨ ¬ ((M o 29) ≤ vv5) then ((if (M o 27) ≤ vv6 then (some (0 : Int32)) else (lt_ (if (M o 27) ≤ vv6 then ((0 : Int32)) else (vv6)) fun xx19 => if j_g xx19 (j_ln Y (j_rf Y o 30)) then (if ¬ ((M (j_rf Y o 30) xx19.toNatClampNeg) = vv5) ∨ (M o 29) ≤ vv5 then (some (0 : Int32)) else (some (1 : Int32))) else none)).bind fun xx57 => (if (M o 27) ≤ vv6 then (some (0 : Int32)) else (lt_ (if (M o 27) ≤ vv6 then ((0 : Int32)) else (vv6)) fun xx29 => if j_g xx29 (j_ln Y (j_rf Y o 30)) then (if (M (j_rf Y o 30) xx29.toNatClampNeg) = (-1 : Int32) then (some (1 : Int32)) else (some (0 : Int32))) else none)).bind fun xx56 => (if xx57 = 0 then (if xx56 = 0 then (if j_g vv5 (j_ln Y (j_rf Y o 28)) then (some ((200 : Int32) + (M (j_rf Y o 28) vv5.toNatClampNeg))) else none) else (if j_g vv6 (j_ln Y (j_rf Y o 26)) then (some ((100 : Int32) + (M (j_rf Y o 26) vv6.toNatClampNeg))) else none)) else (if j_g vv6 (j_ln Y (j_rf Y o 26)) then (some (M (j_rf Y o 26) vv6.toNatClampNeg)) else none)).bind fun xx55 => if vv4 = p1 then (some (Sum.inr xx55)) else (lt_ (vv4 + (1 : Int32)) fun vv42 => lt_ (if ¬ (xx57 = 0) ∨ ¬ (xx56 = 0) then ((1 : Int32)) else ((0 : Int32))) fun xx54 => lt_ (vv6 + xx54) fun vv48 => lt_ (if xx56 = 0 then ((1 : Int32)) else ((0 : Int32))) fun xx53 => lt_ (vv5 + xx53) fun vv52 => lp_X10_step_1 Y M o p1 n vv42 vv52 vv48)) else (some (Sum.inl ()))
def s_X10_step (Y : JY) (M : JM) (o : Nat) (p1 : Int32) : Option (Int32 × JM) := if (j_z (M o 25)) = 0 then (lt_ (s_X10_fails Y M o (1 : Int32)) fun xx2 => some (xx2.1, xx2.2)) else ((lp_X10_step_1 Y M o p1 j_fuel (0 : Int32) (0 : Int32) (0 : Int32)).bind fun xx62 => match xx62 with | Sum.inl xx62a => (lt_ (s_X10_fails Y M o (2 : Int32)) fun xx60 => some (xx60.1, xx60.2)) | Sum.inr xx62a => (lt_ (s_X10_done Y M o xx62a) fun xx61 => some (xx61.1, xx61.2)))
set_option maxRecDepth 100000 in
set_option maxHeartbeats 4000000 in
theorem c_X10_step {D : va_G} {Y : JY} {ty : Nat → ClassId} {ad : Nat → Nat} {sz : Nat} {l : Launch} {M : JM} (hY : j_ok Y) {o : Nat} {p1 : Int32} (ho : j_kd Y o = 10) {r : Int32 × JM} (hE : s_X10_step Y M o p1 = some r) : JMi D Y ty ad sz l yX10_step cX10_step 8 (some .int) 1 21 [.ref (ad o), .int p1] M r.1 r.2 := by
  refine j_ofI hY (by decide +kernel) (Nat.le_of_ble_eq_true rfl) (fun p e s m below meth c args R Q A hRf hRl hA jc jw kr ls hl => ?_)
  have hx := jc.1
  have hb := jc.2.1
  have hl : lv_has ls 8 [(0, .ref (ad o)), (1, .int p1)] := hl
  unfold s_X10_step at hE
  obtain ⟨G0, eG0, hG0, hE⟩ := j_F0o hE
  refine lv_aload_n hx hb dX10_step_0 rfl (lv_at hl 0 rfl) ?_
  refine jg_10_25 jc jw ho wd_6_84 dX10_step_1 ?_
  refine lv_if_ne (tgt := 13) hx hb dX10_step_4 (by decide) (fun c1 => ?_) (fun c1 => ?_)
  · rw [if_neg c1] at hE
    refine lv_iconst (v := 0) hx hb dX10_step_13 (by decide) ?_
    refine lv_istore_n (lv' := [(2, .int (0 : Int32)), (0, .ref (ad o)), (1, .int p1)]) hx hb dX10_step_14 rfl hl (by decide) rfl (fun ls hl => ?_)
    refine lv_iconst (v := 0) hx hb dX10_step_15 (by decide) ?_
    refine lv_istore_n (lv' := [(3, .int (0 : Int32)), (2, .int (0 : Int32)), (0, .ref (ad o)), (1, .int p1)]) hx hb dX10_step_16 rfl hl (by decide) rfl (fun ls hl => ?_)
    refine lv_iconst (v := 0) hx hb dX10_step_17 (by decide) ?_
    refine lv_istore (lv' := [(4, .int (0 : Int32)), (3, .int (0 : Int32)), (2, .int (0 : Int32)), (0, .ref (ad o)), (1, .int p1)]) hx hb dX10_step_18 hl (by decide) rfl (fun ls hl => ?_)
    obtain ⟨G3, eG3, hG3, hE⟩ := j_ctxB hG0 hE
    have E3_221 : ∀   (H : Heap) (locs : List Loc) (ls : Array Slot), G3 (some (Sum.inl ())) = some r → JW D Y ty ad A s.heap M H locs → lv_has ls 8 [(0, .ref (ad o))] → W p l e R s m args below meth c H locs 0 0 Q (F0 m 221 ls []) := by
      intro   H locs ls hE jw hl
      replace hE := j_popB eG3 hE
      try dsimp only at hE
      refine lv_aload_n hx hb dX10_step_221 rfl (lv_at hl 0 rfl) ?_
      refine lv_iconst (v := 2) hx hb dX10_step_222 (by decide) ?_
      obtain ⟨xx60, exx60, hE⟩ := j_lv hE
      try dsimp only at hE
      refine jc_vi [.int (2 : Int32)] [] jc jw hA ho (by decide) rfl (c_X10_fails hY ho (M := M) exx60.symm) sd_X10_130 rfl hl.1 (j_hR hRf hRl rfl rfl) (Nat.le_of_ble_eq_true rfl) dX10_step_223 (fun H locs jw => ?_)
      exact kr _ _ _ _ _ _ (congrArg Prod.fst (Option.some.inj (j_ret eG0 hE))) (congrArg Prod.snd (Option.some.inj (j_ret eG0 hE))) jw dX10_step_226
    have E3_175 : ∀ (vv59 : Int32)  (H : Heap) (locs : List Loc) (ls : Array Slot), G3 (some (Sum.inr vv59)) = some r → JW D Y ty ad A s.heap M H locs → lv_has ls 8 [(0, .ref (ad o)), (7, .int vv59)] → W p l e R s m args below meth c H locs 0 0 Q (F0 m 175 ls []) := by
      intro vv59  H locs ls hE jw hl
      replace hE := j_popB eG3 hE
      try dsimp only at hE
      refine lv_aload_n hx hb dX10_step_175 rfl (lv_at hl 0 rfl) ?_
      refine lv_iload hx hb dX10_step_176 (lv_at hl 1 rfl) ?_
      obtain ⟨xx61, exx61, hE⟩ := j_lv hE
      try dsimp only at hE
      refine jc_vi [.int vv59] [] jc jw hA ho (by decide) rfl (c_X10_done hY ho (M := M) exx61.symm) sd_X10_138 rfl hl.1 (j_hR hRf hRl rfl rfl) (Nat.le_of_ble_eq_true rfl) dX10_step_178 (fun H locs jw => ?_)
      exact kr _ _ _ _ _ _ (congrArg Prod.fst (Option.some.inj (j_ret eG0 hE))) (congrArg Prod.snd (Option.some.inj (j_ret eG0 hE))) jw dX10_step_181
    have LP3 : ∀ (n : Nat) (vv4 : Int32) (vv5 : Int32) (vv6 : Int32) (H : Heap) (locs : List Loc) (ls : Array Slot), G3 (lp_X10_step_1 Y M o p1 n vv4 vv5 vv6) = some r → JW D Y ty ad A s.heap M H locs → lv_has ls 8 [(4, .int vv6), (3, .int vv5), (2, .int vv4), (0, .ref (ad o)), (1, .int p1)] → W p l e R s m args below meth c H locs 0 0 Q (F0 m 20 ls []) := by
      intro n
      induction n with
      | zero => intro vv4 vv5 vv6 H locs ls hE jw hl; exact absurd hE (hG3 _)
      | succ n ih =>
        intro vv4 vv5 vv6 H locs ls hE jw hl
        rw [lp_X10_step_1] at hE
        refine lv_iload hx hb dX10_step_20 (lv_at hl 0 rfl) ?_
        refine lv_aload_n hx hb dX10_step_22 rfl (lv_at hl 3 rfl) ?_
        refine jg_10_27 jc jw ho wd_6_86 dX10_step_23 ?_
        have B58 : ∀ (H : Heap) (locs : List Loc), JW D Y ty ad A s.heap M H locs → (vv6 < (M o 27) ∨ ¬ ((M o 29) ≤ vv5)) → W p l e R s m args below meth c H locs 0 0 Q (F0 m 37 ls []) := by
          intro H locs jw hcc
          rw [if_pos hcc] at hE
          refine lv_iload hx hb dX10_step_37 (lv_at hl 0 rfl) ?_
          refine lv_aload_n hx hb dX10_step_39 rfl (lv_at hl 3 rfl) ?_
          refine jg_10_27 jc jw ho wd_6_86 dX10_step_40 ?_
          obtain ⟨G10, eG10, hG10, hE⟩ := j_ctxB hG3 hE
          have J10 : ∀ (vv20 : Int32)  (H : Heap) (locs : List Loc) (ls : Array Slot), G10 (some vv20) = some r → JW D Y ty ad A s.heap M H locs → lv_has ls 8 [(4, .int vv6), (3, .int vv5), (2, .int vv4), (0, .ref (ad o)), (1, .int p1)] → W p l e R s m args below meth c H locs 0 0 Q (F0 m 83 ls [.int vv20]) := by
            intro vv20  H locs ls hE jw hl
            replace hE := j_popB eG10 hE
            try dsimp only at hE
            refine lv_istore (lv' := [(5, .int vv20), (4, .int vv6), (3, .int vv5), (2, .int vv4), (0, .ref (ad o)), (1, .int p1)]) hx hb dX10_step_83 hl (by decide) rfl (fun ls hl => ?_)
            refine lv_iload hx hb dX10_step_85 (lv_at hl 1 rfl) ?_
            refine lv_aload_n hx hb dX10_step_87 rfl (lv_at hl 4 rfl) ?_
            refine jg_10_27 jc jw ho wd_6_86 dX10_step_88 ?_
            obtain ⟨G22, eG22, hG22, hE⟩ := j_ctxB hG3 hE
            have J22 : ∀ (vv30 : Int32)  (H : Heap) (locs : List Loc) (ls : Array Slot), G22 (some vv30) = some r → JW D Y ty ad A s.heap M H locs → lv_has ls 8 [(5, .int vv20), (4, .int vv6), (3, .int vv5), (2, .int vv4), (0, .ref (ad o)), (1, .int p1)] → W p l e R s m args below meth c H locs 0 0 Q (F0 m 123 ls [.int vv30]) := by
              intro vv30  H locs ls hE jw hl
              replace hE := j_popB eG22 hE
              try dsimp only at hE
              refine lv_istore (lv' := [(6, .int vv30), (5, .int vv20), (4, .int vv6), (3, .int vv5), (2, .int vv4), (0, .ref (ad o)), (1, .int p1)]) hx hb dX10_step_123 hl (by decide) rfl (fun ls hl => ?_)
              refine lv_iload hx hb dX10_step_125 (lv_at hl 1 rfl) ?_
              obtain ⟨G32, eG32, hG32, hE⟩ := j_ctxB hG3 hE
              have J32 : ∀ (vv40 : Int32)  (H : Heap) (locs : List Loc) (ls : Array Slot), G32 (some vv40) = some r → JW D Y ty ad A s.heap M H locs → lv_has ls 8 [(6, .int vv30), (5, .int vv20), (4, .int vv6), (3, .int vv5), (2, .int vv4), (0, .ref (ad o)), (1, .int p1)] → W p l e R s m args below meth c H locs 0 0 Q (F0 m 168 ls [.int vv40]) := by
                intro vv40  H locs ls hE jw hl
                replace hE := j_popB eG32 hE
                try dsimp only at hE
                refine lv_istore (lv' := [(7, .int vv40), (6, .int vv30), (5, .int vv20), (4, .int vv6), (3, .int vv5), (2, .int vv4), (0, .ref (ad o)), (1, .int p1)]) hx hb dX10_step_168 hl (by decide) rfl (fun ls hl => ?_)
                refine lv_iload_n hx hb dX10_step_170 rfl (lv_at hl 5 rfl) ?_
                refine lv_iload_n hx hb dX10_step_171 rfl (lv_at hl 7 rfl) ?_
                refine lv_icmp_ne (tgt := 182) hx hb dX10_step_172 (by decide) (fun c41 => ?_) (fun c41 => ?_)
                · rw [if_neg c41] at hE
                  obtain ⟨vv42, evv42, hE⟩ := j_lv hE
                  try dsimp only at hE
                  refine lv_iinc (v := vv42) (lv' := [(2, .int vv42), (7, .int vv40), (6, .int vv30), (5, .int vv20), (4, .int vv6), (3, .int vv5), (0, .ref (ad o)), (1, .int p1)]) hx hb dX10_step_182 hl (k := 5) rfl (by rw [evv42]; rfl) (by decide) rfl (fun ls hl => ?_)
                  refine lv_iload hx hb dX10_step_185 (lv_at hl 4 rfl) ?_
                  refine lv_iload hx hb dX10_step_187 (lv_at hl 3 rfl) ?_
                  obtain ⟨G45, eG45, hE⟩ := j_ctxL hE
                  have J45 : ∀ (vv47 : Int32)  (H : Heap) (locs : List Loc) (ls : Array Slot), G45 (vv47) = some r → JW D Y ty ad A s.heap M H locs → lv_has ls 8 [(2, .int vv42), (6, .int vv30), (3, .int vv5), (0, .ref (ad o)), (1, .int p1)] → W p l e R s m args below meth c H locs 0 0 Q (F0 m 202 ls [.int vv47, .int vv6]) := by
                    intro vv47  H locs ls hE jw hl
                    replace hE := j_popL eG45 hE
                    try dsimp only at hE
                    refine lv_iadd hx hb dX10_step_202 ?_
                    refine lv_topi (fun vv48 evv48 => ?_)
                    replace hE := j_lu hE evv48
                    try dsimp only at hE
                    refine lv_istore (lv' := [(4, .int vv48), (2, .int vv42), (6, .int vv30), (3, .int vv5), (0, .ref (ad o)), (1, .int p1)]) hx hb dX10_step_203 hl (by decide) rfl (fun ls hl => ?_)
                    refine lv_iload_n hx hb dX10_step_205 rfl (lv_at hl 3 rfl) ?_
                    refine lv_iload hx hb dX10_step_206 (lv_at hl 2 rfl) ?_
                    obtain ⟨G50, eG50, hE⟩ := j_ctxL hE
                    have J50 : ∀ (vv51 : Int32)  (H : Heap) (locs : List Loc) (ls : Array Slot), G50 (vv51) = some r → JW D Y ty ad A s.heap M H locs → lv_has ls 8 [(4, .int vv48), (2, .int vv42), (0, .ref (ad o)), (1, .int p1)] → W p l e R s m args below meth c H locs 0 0 Q (F0 m 216 ls [.int vv51, .int vv5]) := by
                      intro vv51  H locs ls hE jw hl
                      replace hE := j_popL eG50 hE
                      try dsimp only at hE
                      refine lv_iadd hx hb dX10_step_216 ?_
                      refine lv_topi (fun vv52 evv52 => ?_)
                      replace hE := j_lu hE evv52
                      try dsimp only at hE
                      refine lv_istore_n (lv' := [(3, .int vv52), (4, .int vv48), (2, .int vv42), (0, .ref (ad o)), (1, .int p1)]) hx hb dX10_step_217 rfl hl (by decide) rfl (fun ls hl => ?_)
                      refine lv_goto (tgt := 20) hx hb dX10_step_218 (by decide) ?_
                      exact ih vv42 vv52 vv48 H locs ls hE jw (lv_sub hl [1, 0, 2, 3, 4] rfl)
                    refine lv_if_eq (tgt := 215) hx hb dX10_step_208 (by decide) (fun c49 => ?_) (fun c49 => ?_)
                    · rw [if_pos c49] at hE
                      refine lv_iconst (v := 1) hx hb dX10_step_215 (by decide) ?_
                      exact J50 (1 : Int32)  H locs ls hE jw (lv_sub hl [0, 1, 4, 5] rfl)
                    · rw [if_neg c49] at hE
                      refine lv_iconst (v := 0) hx hb dX10_step_211 (by decide) ?_
                      refine lv_goto (tgt := 216) hx hb dX10_step_212 (by decide) ?_
                      exact J50 (0 : Int32)  H locs ls hE jw (lv_sub hl [0, 1, 4, 5] rfl)
                  have B46 : ∀ (H : Heap) (locs : List Loc), JW D Y ty ad A s.heap M H locs → (¬ (vv20 = 0) ∨ ¬ (vv30 = 0)) → W p l e R s m args below meth c H locs 0 0 Q (F0 m 197 ls [.int vv6]) := by
                    intro H locs jw hcc
                    rw [if_pos hcc] at hE
                    refine lv_iconst (v := 1) hx hb dX10_step_197 (by decide) ?_
                    refine lv_goto (tgt := 202) hx hb dX10_step_198 (by decide) ?_
                    exact J45 (1 : Int32)  H locs ls hE jw (lv_sub hl [0, 2, 5, 6, 7] rfl)
                  refine lv_if_ne (tgt := 197) hx hb dX10_step_189 (by decide) (fun c43 => B46 _ _ jw (Or.inl c43)) (fun c43 => ?_)
                  refine lv_iload hx hb dX10_step_192 (lv_at hl 2 rfl) ?_
                  refine lv_if_eq (tgt := 201) hx hb dX10_step_194 (by decide) (fun c44 => ?_) (fun c44 => B46 _ _ jw (Or.inr c44))
                  rw [if_neg (fun hq => hq.elim (fun hq => (j_absn c43 hq)) (fun hq => (j_absn c44 hq)))] at hE
                  refine lv_iconst (v := 0) hx hb dX10_step_201 (by decide) ?_
                  exact J45 (0 : Int32)  H locs ls hE jw (lv_sub hl [0, 2, 5, 6, 7] rfl)
                · rw [if_pos c41] at hE
                  exact E3_175 vv40  H locs ls hE jw (lv_sub hl [6, 0] rfl)
              refine lv_if_eq (tgt := 140) hx hb dX10_step_127 (by decide) (fun c31 => ?_) (fun c31 => ?_)
              · rw [if_pos c31] at hE
                refine lv_iload hx hb dX10_step_140 (lv_at hl 0 rfl) ?_
                refine lv_if_eq (tgt := 158) hx hb dX10_step_142 (by decide) (fun c33 => ?_) (fun c33 => ?_)
                · rw [if_pos c33] at hE
                  refine lv_sipush (v := 200) hx hb dX10_step_158 (by decide) ?_
                  refine lv_aload_n hx hb dX10_step_161 rfl (lv_at hl 5 rfl) ?_
                  refine jg_10_28 jc jw ho wd_6_87 dX10_step_162 ?_
                  have k34 := j_sub hY ho 28 (f := 100) rfl (by decide) (by decide) (by decide)
                  refine lv_iload_n hx hb dX10_step_165 rfl (lv_at hl 3 rfl) ?_
                  rcases Classical.em (j_g vv5 (j_ln Y (j_rf Y o 28))) with g35 | g35
                  case inr => rw [if_neg g35] at hE; exact absurd hE (hG32 _)
                  rw [if_pos g35] at hE
                  refine jr_iald jc jw k34 (j_g_in g35) dX10_step_166 ?_
                  refine lv_iadd hx hb dX10_step_167 ?_
                  exact J32 ((200 : Int32) + (M (j_rf Y o 28) vv5.toNatClampNeg))  H locs ls hE jw (lv_sub hl [0, 1, 2, 3, 4, 5, 6] rfl)
                · rw [if_neg c33] at hE
                  refine lv_bipush (v := 100) hx hb dX10_step_145 (by decide) ?_
                  refine lv_aload_n hx hb dX10_step_147 rfl (lv_at hl 5 rfl) ?_
                  refine jg_10_26 jc jw ho wd_6_85 dX10_step_148 ?_
                  have k36 := j_sub hY ho 26 (f := 100) rfl (by decide) (by decide) (by decide)
                  refine lv_iload hx hb dX10_step_151 (lv_at hl 2 rfl) ?_
                  rcases Classical.em (j_g vv6 (j_ln Y (j_rf Y o 26))) with g37 | g37
                  case inr => rw [if_neg g37] at hE; exact absurd hE (hG32 _)
                  rw [if_pos g37] at hE
                  refine jr_iald jc jw k36 (j_g_in g37) dX10_step_153 ?_
                  refine lv_iadd hx hb dX10_step_154 ?_
                  refine lv_goto (tgt := 168) hx hb dX10_step_155 (by decide) ?_
                  exact J32 ((100 : Int32) + (M (j_rf Y o 26) vv6.toNatClampNeg))  H locs ls hE jw (lv_sub hl [0, 1, 2, 3, 4, 5, 6] rfl)
              · rw [if_neg c31] at hE
                refine lv_aload_n hx hb dX10_step_130 rfl (lv_at hl 5 rfl) ?_
                refine jg_10_26 jc jw ho wd_6_85 dX10_step_131 ?_
                have k38 := j_sub hY ho 26 (f := 100) rfl (by decide) (by decide) (by decide)
                refine lv_iload hx hb dX10_step_134 (lv_at hl 2 rfl) ?_
                rcases Classical.em (j_g vv6 (j_ln Y (j_rf Y o 26))) with g39 | g39
                case inr => rw [if_neg g39] at hE; exact absurd hE (hG32 _)
                rw [if_pos g39] at hE
                refine jr_iald jc jw k38 (j_g_in g39) dX10_step_136 ?_
                refine lv_goto (tgt := 168) hx hb dX10_step_137 (by decide) ?_
                exact J32 (M (j_rf Y o 26) vv6.toNatClampNeg)  H locs ls hE jw (lv_sub hl [0, 1, 2, 3, 4, 5, 6] rfl)
            refine lv_icmp_ge (tgt := 122) hx hb dX10_step_91 (by decide) (fun c21 => ?_) (fun c21 => ?_)
            · rw [if_pos c21] at hE
              refine lv_iconst (v := 0) hx hb dX10_step_122 (by decide) ?_
              exact J22 (0 : Int32)  H locs ls hE jw (lv_sub hl [0, 1, 2, 3, 4, 5] rfl)
            · rw [if_neg c21] at hE
              refine lv_aload_n hx hb dX10_step_94 rfl (lv_at hl 4 rfl) ?_
              refine jg_10_30 jc jw ho wd_6_89 dX10_step_95 ?_
              have k23 := j_sub hY ho 30 (f := 100) rfl (by decide) (by decide) (by decide)
              refine lv_iload hx hb dX10_step_98 (lv_at hl 1 rfl) ?_
              refine lv_aload_n hx hb dX10_step_100 rfl (lv_at hl 4 rfl) ?_
              refine jg_10_27 jc jw ho wd_6_86 dX10_step_101 ?_
              obtain ⟨G25, eG25, hE⟩ := j_ctxL hE
              have J25 : ∀ (vv26 : Int32)  (H : Heap) (locs : List Loc) (ls : Array Slot), G25 (vv26) = some r → JW D Y ty ad A s.heap M H locs → lv_has ls 8 [(5, .int vv20), (4, .int vv6), (3, .int vv5), (2, .int vv4), (0, .ref (ad o)), (1, .int p1)] → W p l e R s m args below meth c H locs 0 0 Q (F0 m 113 ls [.int vv26, .ref (ad (j_rf Y o 30))]) := by
                intro vv26  H locs ls hE jw hl
                replace hE := j_popL eG25 hE
                try dsimp only at hE
                rcases Classical.em (j_g vv26 (j_ln Y (j_rf Y o 30))) with g27 | g27
                case inr => rw [if_neg g27] at hE; exact absurd hE (hG22 _)
                rw [if_pos g27] at hE
                refine jr_iald jc jw k23 (j_g_in g27) dX10_step_113 ?_
                refine lv_iconst (v := -1) hx hb dX10_step_114 (by decide) ?_
                refine lv_icmp_ne (tgt := 122) hx hb dX10_step_115 (by decide) (fun c28 => ?_) (fun c28 => ?_)
                · rw [if_neg c28] at hE
                  refine lv_iconst (v := 0) hx hb dX10_step_122 (by decide) ?_
                  exact J22 (0 : Int32)  H locs ls hE jw (lv_sub hl [0, 1, 2, 3, 4, 5] rfl)
                · rw [if_pos c28] at hE
                  refine lv_iconst (v := 1) hx hb dX10_step_118 (by decide) ?_
                  refine lv_goto (tgt := 123) hx hb dX10_step_119 (by decide) ?_
                  exact J22 (1 : Int32)  H locs ls hE jw (lv_sub hl [0, 1, 2, 3, 4, 5] rfl)
              refine lv_icmp_ge (tgt := 112) hx hb dX10_step_104 (by decide) (fun c24 => ?_) (fun c24 => ?_)
              · rw [if_pos c24] at hE
                refine lv_iconst (v := 0) hx hb dX10_step_112 (by decide) ?_
                exact J25 (0 : Int32)  H locs ls hE jw (lv_sub hl [0, 1, 2, 3, 4, 5] rfl)
              · rw [if_neg c24] at hE
                refine lv_iload hx hb dX10_step_107 (lv_at hl 1 rfl) ?_
                refine lv_goto (tgt := 113) hx hb dX10_step_109 (by decide) ?_
                exact J25 vv6  H locs ls hE jw (lv_sub hl [0, 1, 2, 3, 4, 5] rfl)
          refine lv_icmp_ge (tgt := 82) hx hb dX10_step_43 (by decide) (fun c9 => ?_) (fun c9 => ?_)
          · rw [if_pos c9] at hE
            refine lv_iconst (v := 0) hx hb dX10_step_82 (by decide) ?_
            exact J10 (0 : Int32)  H locs ls hE jw (lv_sub hl [0, 1, 2, 3, 4] rfl)
          · rw [if_neg c9] at hE
            refine lv_aload_n hx hb dX10_step_46 rfl (lv_at hl 3 rfl) ?_
            refine jg_10_30 jc jw ho wd_6_89 dX10_step_47 ?_
            have k11 := j_sub hY ho 30 (f := 100) rfl (by decide) (by decide) (by decide)
            refine lv_iload hx hb dX10_step_50 (lv_at hl 0 rfl) ?_
            refine lv_aload_n hx hb dX10_step_52 rfl (lv_at hl 3 rfl) ?_
            refine jg_10_27 jc jw ho wd_6_86 dX10_step_53 ?_
            obtain ⟨G13, eG13, hE⟩ := j_ctxL hE
            have J13 : ∀ (vv14 : Int32)  (H : Heap) (locs : List Loc) (ls : Array Slot), G13 (vv14) = some r → JW D Y ty ad A s.heap M H locs → lv_has ls 8 [(4, .int vv6), (3, .int vv5), (2, .int vv4), (0, .ref (ad o)), (1, .int p1)] → W p l e R s m args below meth c H locs 0 0 Q (F0 m 65 ls [.int vv14, .ref (ad (j_rf Y o 30))]) := by
              intro vv14  H locs ls hE jw hl
              replace hE := j_popL eG13 hE
              try dsimp only at hE
              rcases Classical.em (j_g vv14 (j_ln Y (j_rf Y o 30))) with g15 | g15
              case inr => rw [if_neg g15] at hE; exact absurd hE (hG10 _)
              rw [if_pos g15] at hE
              refine jr_iald jc jw k11 (j_g_in g15) dX10_step_65 ?_
              refine lv_iload_n hx hb dX10_step_66 rfl (lv_at hl 1 rfl) ?_
              have B18 : ∀ (H : Heap) (locs : List Loc), JW D Y ty ad A s.heap M H locs → (¬ ((M (j_rf Y o 30) vv14.toNatClampNeg) = vv5) ∨ (M o 29) ≤ vv5) → W p l e R s m args below meth c H locs 0 0 Q (F0 m 82 ls []) := by
                intro H locs jw hcc
                rw [if_pos hcc] at hE
                refine lv_iconst (v := 0) hx hb dX10_step_82 (by decide) ?_
                exact J10 (0 : Int32)  H locs ls hE jw (lv_sub hl [0, 1, 2, 3, 4] rfl)
              refine lv_icmp_ne (tgt := 82) hx hb dX10_step_67 (by decide) (fun c16 => B18 _ _ jw (Or.inl c16)) (fun c16 => ?_)
              refine lv_iload_n hx hb dX10_step_70 rfl (lv_at hl 1 rfl) ?_
              refine lv_aload_n hx hb dX10_step_71 rfl (lv_at hl 3 rfl) ?_
              refine jg_10_29 jc jw ho wd_6_88 dX10_step_72 ?_
              refine lv_icmp_ge (tgt := 82) hx hb dX10_step_75 (by decide) (fun c17 => B18 _ _ jw (Or.inr c17)) (fun c17 => ?_)
              rw [if_neg (fun hq => hq.elim (fun hq => (j_absn c16 hq)) (fun hq => (j_abs c17 hq)))] at hE
              refine lv_iconst (v := 1) hx hb dX10_step_78 (by decide) ?_
              refine lv_goto (tgt := 83) hx hb dX10_step_79 (by decide) ?_
              exact J10 (1 : Int32)  H locs ls hE jw (lv_sub hl [0, 1, 2, 3, 4] rfl)
            refine lv_icmp_ge (tgt := 64) hx hb dX10_step_56 (by decide) (fun c12 => ?_) (fun c12 => ?_)
            · rw [if_pos c12] at hE
              refine lv_iconst (v := 0) hx hb dX10_step_64 (by decide) ?_
              exact J13 (0 : Int32)  H locs ls hE jw (lv_sub hl [0, 1, 2, 3, 4] rfl)
            · rw [if_neg c12] at hE
              refine lv_iload hx hb dX10_step_59 (lv_at hl 0 rfl) ?_
              refine lv_goto (tgt := 65) hx hb dX10_step_61 (by decide) ?_
              exact J13 vv6  H locs ls hE jw (lv_sub hl [0, 1, 2, 3, 4] rfl)
        refine lv_icmp_lt (tgt := 37) hx hb dX10_step_26 (by decide) (fun c7 => B58 _ _ jw (Or.inl c7)) (fun c7 => ?_)
        refine lv_iload_n hx hb dX10_step_29 rfl (lv_at hl 1 rfl) ?_
        refine lv_aload_n hx hb dX10_step_30 rfl (lv_at hl 3 rfl) ?_
        refine jg_10_29 jc jw ho wd_6_88 dX10_step_31 ?_
        refine lv_icmp_ge (tgt := 221) hx hb dX10_step_34 (by decide) (fun c8 => ?_) (fun c8 => B58 _ _ jw (Or.inr c8))
        rw [if_neg (fun hq => hq.elim (fun hq => (j_abs c7 hq)) (fun hq => (j_absn c8 hq)))] at hE
        exact E3_221   H locs ls hE jw (lv_sub hl [3] rfl)
    exact LP3 j_fuel (0 : Int32) (0 : Int32) (0 : Int32) s.heap [] ls hE jw (lv_sub hl [0, 1, 2, 3, 4] rfl)
  · rw [if_pos c1] at hE
    refine lv_aload_n hx hb dX10_step_7 rfl (lv_at hl 0 rfl) ?_
    refine lv_iconst (v := 1) hx hb dX10_step_8 (by decide) ?_
    obtain ⟨xx2, exx2, hE⟩ := j_lv hE
    try dsimp only at hE
    refine jc_vi [.int (1 : Int32)] [] jc jw hA ho (by decide) rfl (c_X10_fails hY ho (M := M) exx2.symm) sd_X10_130 rfl hl.1 (j_hR hRf hRl rfl rfl) (Nat.le_of_ble_eq_true rfl) dX10_step_9 (fun H locs jw => ?_)
    exact kr _ _ _ _ _ _ (congrArg Prod.fst (Option.some.inj (j_ret eG0 hE))) (congrArg Prod.snd (Option.some.inj (j_ret eG0 hE))) jw dX10_step_12
def lp_X10_lengthFrom_1 (Y : JY) (M : JM) (o : Nat) (p1 : Int32) (p2 : Int32) (n : Nat) (vv2 : Int32) : Option (Int32) := match n with
  | 0 => none
  | n + 1 => if (M o 27) ≤ (p1 + vv2) ∨ (M o 29) ≤ (p2 + vv2) then (some vv2) else (if j_g (p1 + vv2) (j_ln Y (j_rf Y o 36)) then (if (M (j_rf Y o 36) (p1 + vv2).toNatClampNeg) = 0 then (if j_g (p2 + vv2) (j_ln Y (j_rf Y o 37)) then (if (M (j_rf Y o 37) (p2 + vv2).toNatClampNeg) = 0 then (if j_g (p1 + vv2) (j_ln Y (j_rf Y o 26)) then (if j_g (p2 + vv2) (j_ln Y (j_rf Y o 28)) then (if (M (j_rf Y o 26) (p1 + vv2).toNatClampNeg) = (M (j_rf Y o 28) (p2 + vv2).toNatClampNeg) then (lt_ (vv2 + (1 : Int32)) fun vv16 => lp_X10_lengthFrom_1 Y M o p1 p2 n vv16) else (some vv2)) else none) else none) else (some vv2)) else none) else (some vv2)) else none)
def s_X10_lengthFrom (Y : JY) (M : JM) (o : Nat) (p1 : Int32) (p2 : Int32) : Option (Int32) := (lp_X10_lengthFrom_1 Y M o p1 p2 j_fuel (0 : Int32)).bind fun xx18 => some xx18
set_option maxRecDepth 100000 in
set_option maxHeartbeats 4000000 in
theorem c_X10_lengthFrom {D : va_G} {Y : JY} {ty : Nat → ClassId} {ad : Nat → Nat} {sz : Nat} {l : Launch} {M : JM} (hY : j_ok Y) {o : Nat} {p1 : Int32} {p2 : Int32} (ho : j_kd Y o = 10) {r : Int32} (hE : s_X10_lengthFrom Y M o p1 p2 = some r) : JMi D Y ty ad sz l yX10_lengthFrom cX10_lengthFrom 4 (some .int) 0 0 [.ref (ad o), .int p1, .int p2] M r M := by
  refine j_ofI hY (by decide +kernel) (Nat.le_of_ble_eq_true rfl) (fun p e s m below meth c args R Q A hRf hRl hA jc jw kr ls hl => ?_)
  have hx := jc.1
  have hb := jc.2.1
  have hl : lv_has ls 4 [(0, .ref (ad o)), (1, .int p1), (2, .int p2)] := hl
  unfold s_X10_lengthFrom at hE
  obtain ⟨G0, eG0, hG0, hE⟩ := j_F0o hE
  refine lv_iconst (v := 0) hx hb dX10_lengthFrom_0 (by decide) ?_
  refine lv_istore_n (lv' := [(3, .int (0 : Int32)), (0, .ref (ad o)), (1, .int p1), (2, .int p2)]) hx hb dX10_lengthFrom_1 rfl hl (by decide) rfl (fun ls hl => ?_)
  obtain ⟨G1, eG1, hG1, hE⟩ := j_ctxB hG0 hE
  have LP1 : ∀ (n : Nat) (vv2 : Int32) (H : Heap) (locs : List Loc) (ls : Array Slot), G1 (lp_X10_lengthFrom_1 Y M o p1 p2 n vv2) = some r → JW D Y ty ad A s.heap M H locs → lv_has ls 4 [(3, .int vv2), (0, .ref (ad o)), (1, .int p1), (2, .int p2)] → W p l e R s m args below meth c H locs 0 0 Q (F0 m 2 ls []) := by
    intro n
    induction n with
    | zero => intro vv2 H locs ls hE jw hl; exact absurd hE (hG1 _)
    | succ n ih =>
      intro vv2 H locs ls hE jw hl
      rw [lp_X10_lengthFrom_1] at hE
      refine lv_iload_n hx hb dX10_lengthFrom_2 rfl (lv_at hl 2 rfl) ?_
      refine lv_iload_n hx hb dX10_lengthFrom_3 rfl (lv_at hl 0 rfl) ?_
      refine lv_iadd hx hb dX10_lengthFrom_4 ?_
      refine lv_aload_n hx hb dX10_lengthFrom_5 rfl (lv_at hl 1 rfl) ?_
      refine jg_10_27 jc jw ho wd_6_86 dX10_lengthFrom_6 ?_
      have B17 : ∀ (H : Heap) (locs : List Loc), JW D Y ty ad A s.heap M H locs → ((M o 27) ≤ (p1 + vv2) ∨ (M o 29) ≤ (p2 + vv2)) → W p l e R s m args below meth c H locs 0 0 Q (F0 m 69 ls []) := by
        intro H locs jw hcc
        rw [if_pos hcc] at hE
        refine lv_iload_n hx hb dX10_lengthFrom_69 rfl (lv_at hl 0 rfl) ?_
        replace hE := j_popB eG1 hE
        try dsimp only at hE
        exact kr _ _ _ _ _ _ (Option.some.inj (j_ret eG0 hE)) rfl jw dX10_lengthFrom_70
      refine lv_icmp_ge (tgt := 69) hx hb dX10_lengthFrom_9 (by decide) (fun c3 => B17 _ _ jw (Or.inl c3)) (fun c3 => ?_)
      refine lv_iload_n hx hb dX10_lengthFrom_12 rfl (lv_at hl 3 rfl) ?_
      refine lv_iload_n hx hb dX10_lengthFrom_13 rfl (lv_at hl 0 rfl) ?_
      refine lv_iadd hx hb dX10_lengthFrom_14 ?_
      refine lv_aload_n hx hb dX10_lengthFrom_15 rfl (lv_at hl 1 rfl) ?_
      refine jg_10_29 jc jw ho wd_6_88 dX10_lengthFrom_16 ?_
      refine lv_icmp_ge (tgt := 69) hx hb dX10_lengthFrom_19 (by decide) (fun c4 => B17 _ _ jw (Or.inr c4)) (fun c4 => ?_)
      rw [if_neg (fun hq => hq.elim (fun hq => (j_abs c3 hq)) (fun hq => (j_abs c4 hq)))] at hE
      refine lv_aload_n hx hb dX10_lengthFrom_22 rfl (lv_at hl 1 rfl) ?_
      refine jg_10_36 jc jw ho wd_6_95 dX10_lengthFrom_23 ?_
      have k5 := j_sub hY ho 36 (f := 101) rfl (by decide) (by decide) (by decide)
      refine lv_iload_n hx hb dX10_lengthFrom_26 rfl (lv_at hl 2 rfl) ?_
      refine lv_iload_n hx hb dX10_lengthFrom_27 rfl (lv_at hl 0 rfl) ?_
      refine lv_iadd hx hb dX10_lengthFrom_28 ?_
      rcases Classical.em (j_g (p1 + vv2) (j_ln Y (j_rf Y o 36))) with g6 | g6
      case inr => rw [if_neg g6] at hE; exact absurd hE (hG1 _)
      rw [if_pos g6] at hE
      refine jr_zald jc jw k5 (j_g_in g6) dX10_lengthFrom_29 ?_
      refine lv_if_ne (tgt := 69) hx hb dX10_lengthFrom_30 (by decide) (fun c7 => ?_) (fun c7 => ?_)
      · rw [if_neg c7] at hE
        refine lv_iload_n hx hb dX10_lengthFrom_69 rfl (lv_at hl 0 rfl) ?_
        replace hE := j_popB eG1 hE
        try dsimp only at hE
        exact kr _ _ _ _ _ _ (Option.some.inj (j_ret eG0 hE)) rfl jw dX10_lengthFrom_70
      · rw [if_pos c7] at hE
        refine lv_aload_n hx hb dX10_lengthFrom_33 rfl (lv_at hl 1 rfl) ?_
        refine jg_10_37 jc jw ho wd_6_96 dX10_lengthFrom_34 ?_
        have k8 := j_sub hY ho 37 (f := 101) rfl (by decide) (by decide) (by decide)
        refine lv_iload_n hx hb dX10_lengthFrom_37 rfl (lv_at hl 3 rfl) ?_
        refine lv_iload_n hx hb dX10_lengthFrom_38 rfl (lv_at hl 0 rfl) ?_
        refine lv_iadd hx hb dX10_lengthFrom_39 ?_
        rcases Classical.em (j_g (p2 + vv2) (j_ln Y (j_rf Y o 37))) with g9 | g9
        case inr => rw [if_neg g9] at hE; exact absurd hE (hG1 _)
        rw [if_pos g9] at hE
        refine jr_zald jc jw k8 (j_g_in g9) dX10_lengthFrom_40 ?_
        refine lv_if_ne (tgt := 69) hx hb dX10_lengthFrom_41 (by decide) (fun c10 => ?_) (fun c10 => ?_)
        · rw [if_neg c10] at hE
          refine lv_iload_n hx hb dX10_lengthFrom_69 rfl (lv_at hl 0 rfl) ?_
          replace hE := j_popB eG1 hE
          try dsimp only at hE
          exact kr _ _ _ _ _ _ (Option.some.inj (j_ret eG0 hE)) rfl jw dX10_lengthFrom_70
        · rw [if_pos c10] at hE
          refine lv_aload_n hx hb dX10_lengthFrom_44 rfl (lv_at hl 1 rfl) ?_
          refine jg_10_26 jc jw ho wd_6_85 dX10_lengthFrom_45 ?_
          have k11 := j_sub hY ho 26 (f := 100) rfl (by decide) (by decide) (by decide)
          refine lv_iload_n hx hb dX10_lengthFrom_48 rfl (lv_at hl 2 rfl) ?_
          refine lv_iload_n hx hb dX10_lengthFrom_49 rfl (lv_at hl 0 rfl) ?_
          refine lv_iadd hx hb dX10_lengthFrom_50 ?_
          rcases Classical.em (j_g (p1 + vv2) (j_ln Y (j_rf Y o 26))) with g12 | g12
          case inr => rw [if_neg g12] at hE; exact absurd hE (hG1 _)
          rw [if_pos g12] at hE
          refine jr_iald jc jw k11 (j_g_in g12) dX10_lengthFrom_51 ?_
          refine lv_aload_n hx hb dX10_lengthFrom_52 rfl (lv_at hl 1 rfl) ?_
          refine jg_10_28 jc jw ho wd_6_87 dX10_lengthFrom_53 ?_
          have k13 := j_sub hY ho 28 (f := 100) rfl (by decide) (by decide) (by decide)
          refine lv_iload_n hx hb dX10_lengthFrom_56 rfl (lv_at hl 3 rfl) ?_
          refine lv_iload_n hx hb dX10_lengthFrom_57 rfl (lv_at hl 0 rfl) ?_
          refine lv_iadd hx hb dX10_lengthFrom_58 ?_
          rcases Classical.em (j_g (p2 + vv2) (j_ln Y (j_rf Y o 28))) with g14 | g14
          case inr => rw [if_neg g14] at hE; exact absurd hE (hG1 _)
          rw [if_pos g14] at hE
          refine jr_iald jc jw k13 (j_g_in g14) dX10_lengthFrom_59 ?_
          refine lv_icmp_ne (tgt := 69) hx hb dX10_lengthFrom_60 (by decide) (fun c15 => ?_) (fun c15 => ?_)
          · rw [if_neg c15] at hE
            refine lv_iload_n hx hb dX10_lengthFrom_69 rfl (lv_at hl 0 rfl) ?_
            replace hE := j_popB eG1 hE
            try dsimp only at hE
            exact kr _ _ _ _ _ _ (Option.some.inj (j_ret eG0 hE)) rfl jw dX10_lengthFrom_70
          · rw [if_pos c15] at hE
            obtain ⟨vv16, evv16, hE⟩ := j_lv hE
            try dsimp only at hE
            refine lv_iinc (v := vv16) (lv' := [(3, .int vv16), (0, .ref (ad o)), (1, .int p1), (2, .int p2)]) hx hb dX10_lengthFrom_63 hl (k := 0) rfl (by rw [evv16]; rfl) (by decide) rfl (fun ls hl => ?_)
            refine lv_goto (tgt := 2) hx hb dX10_lengthFrom_66 (by decide) ?_
            exact ih vv16 H locs ls hE jw (lv_sub hl [0, 1, 2, 3] rfl)
  exact LP1 j_fuel (0 : Int32) s.heap [] ls hE jw (lv_sub hl [0, 1, 2, 3] rfl)
def lp_X10_marks_1 (Y : JY) (p3 : Int32) (p1 : Int32) (o : Nat) (p2 : Int32) (n : Nat) (vv2 : Int32) (mm3 : JM) : Option (JM) := match n with
  | 0 => none
  | n + 1 => if p3 ≤ vv2 then (some mm3) else (if j_g (p1 + vv2) (j_ln Y (j_rf Y o 36)) then (lt_ (j_up mm3 (j_rf Y o 36) (p1 + vv2).toNatClampNeg (1 : Int32)) fun mm7 => if j_g (p2 + vv2) (j_ln Y (j_rf Y o 37)) then (lt_ (j_up mm7 (j_rf Y o 37) (p2 + vv2).toNatClampNeg (1 : Int32)) fun mm10 => lt_ (vv2 + (1 : Int32)) fun vv11 => lp_X10_marks_1 Y p3 p1 o p2 n vv11 mm10) else none) else none)
def s_X10_marks (Y : JY) (M : JM) (o : Nat) (p1 : Int32) (p2 : Int32) (p3 : Int32) : Option (JM) := (lp_X10_marks_1 Y p3 p1 o p2 j_fuel (0 : Int32) M).bind fun xx12 => some xx12
set_option maxRecDepth 100000 in
set_option maxHeartbeats 4000000 in
theorem c_X10_marks {D : va_G} {Y : JY} {ty : Nat → ClassId} {ad : Nat → Nat} {sz : Nat} {l : Launch} {M : JM} (hY : j_ok Y) {o : Nat} {p1 : Int32} {p2 : Int32} {p3 : Int32} (ho : j_kd Y o = 10) {r : JM} (hE : s_X10_marks Y M o p1 p2 p3 = some r) : JMv D Y ty ad sz l yX10_marks cX10_marks 5 0 0 [.ref (ad o), .int p1, .int p2, .int p3] M r := by
  refine j_ofV hY (by decide +kernel) (Nat.le_of_ble_eq_true rfl) (fun p e s m below meth c args R Q A hRf hRl hA jc jw kr ls hl => ?_)
  have hx := jc.1
  have hb := jc.2.1
  have hl : lv_has ls 5 [(0, .ref (ad o)), (1, .int p1), (2, .int p2), (3, .int p3)] := hl
  unfold s_X10_marks at hE
  obtain ⟨G0, eG0, hG0, hE⟩ := j_F0o hE
  refine lv_iconst (v := 0) hx hb dX10_marks_0 (by decide) ?_
  refine lv_istore (lv' := [(4, .int (0 : Int32)), (0, .ref (ad o)), (1, .int p1), (2, .int p2), (3, .int p3)]) hx hb dX10_marks_1 hl (by decide) rfl (fun ls hl => ?_)
  obtain ⟨G1, eG1, hG1, hE⟩ := j_ctxB hG0 hE
  have LP1 : ∀ (n : Nat) (vv2 : Int32) (mm3 : JM) (H : Heap) (locs : List Loc) (ls : Array Slot), G1 (lp_X10_marks_1 Y p3 p1 o p2 n vv2 mm3) = some r → JW D Y ty ad A s.heap mm3 H locs → lv_has ls 5 [(4, .int vv2), (0, .ref (ad o)), (1, .int p1), (2, .int p2), (3, .int p3)] → W p l e R s m args below meth c H locs 0 0 Q (F0 m 3 ls []) := by
    intro n
    induction n with
    | zero => intro vv2 mm3 H locs ls hE jw hl; exact absurd hE (hG1 _)
    | succ n ih =>
      intro vv2 mm3 H locs ls hE jw hl
      rw [lp_X10_marks_1] at hE
      refine lv_iload hx hb dX10_marks_3 (lv_at hl 0 rfl) ?_
      refine lv_iload_n hx hb dX10_marks_5 rfl (lv_at hl 4 rfl) ?_
      refine lv_icmp_ge (tgt := 35) hx hb dX10_marks_6 (by decide) (fun c4 => ?_) (fun c4 => ?_)
      · rw [if_pos c4] at hE
        replace hE := j_popB eG1 hE
        try dsimp only at hE
        exact kr _ _ _ _ _ (Option.some.inj (j_ret eG0 hE)) jw dX10_marks_35
      · rw [if_neg c4] at hE
        refine lv_aload_n hx hb dX10_marks_9 rfl (lv_at hl 1 rfl) ?_
        refine jg_10_36 jc jw ho wd_6_95 dX10_marks_10 ?_
        have k5 := j_sub hY ho 36 (f := 101) rfl (by decide) (by decide) (by decide)
        refine lv_iload_n hx hb dX10_marks_13 rfl (lv_at hl 2 rfl) ?_
        refine lv_iload hx hb dX10_marks_14 (lv_at hl 0 rfl) ?_
        refine lv_iadd hx hb dX10_marks_16 ?_
        refine lv_iconst (v := 1) hx hb dX10_marks_17 (by decide) ?_
        rcases Classical.em (j_g (p1 + vv2) (j_ln Y (j_rf Y o 36))) with g6 | g6
        case inr => rw [if_neg g6] at hE; exact absurd hE (hG1 _)
        rw [if_pos g6] at hE
        refine jr_zast jc jw k5 rfl (j_g_in g6) dX10_marks_18 (fun H locs jw => ?_)
        obtain ⟨mm7, emm7, hE⟩ := j_lv hE
        rw [← emm7] at jw
        try dsimp only at hE
        refine lv_aload_n hx hb dX10_marks_19 rfl (lv_at hl 1 rfl) ?_
        refine jg_10_37 jc jw ho wd_6_96 dX10_marks_20 ?_
        have k8 := j_sub hY ho 37 (f := 101) rfl (by decide) (by decide) (by decide)
        refine lv_iload_n hx hb dX10_marks_23 rfl (lv_at hl 3 rfl) ?_
        refine lv_iload hx hb dX10_marks_24 (lv_at hl 0 rfl) ?_
        refine lv_iadd hx hb dX10_marks_26 ?_
        refine lv_iconst (v := 1) hx hb dX10_marks_27 (by decide) ?_
        rcases Classical.em (j_g (p2 + vv2) (j_ln Y (j_rf Y o 37))) with g9 | g9
        case inr => rw [if_neg g9] at hE; exact absurd hE (hG1 _)
        rw [if_pos g9] at hE
        refine jr_zast jc jw k8 rfl (j_g_in g9) dX10_marks_28 (fun H locs jw => ?_)
        obtain ⟨mm10, emm10, hE⟩ := j_lv hE
        rw [← emm10] at jw
        try dsimp only at hE
        obtain ⟨vv11, evv11, hE⟩ := j_lv hE
        try dsimp only at hE
        refine lv_iinc (v := vv11) (lv' := [(4, .int vv11), (0, .ref (ad o)), (1, .int p1), (2, .int p2), (3, .int p3)]) hx hb dX10_marks_29 hl (k := 0) rfl (by rw [evv11]; rfl) (by decide) rfl (fun ls hl => ?_)
        refine lv_goto (tgt := 3) hx hb dX10_marks_32 (by decide) ?_
        exact ih vv11 mm10 H locs ls hE jw (lv_sub hl [0, 1, 2, 3, 4] rfl)
  exact LP1 j_fuel (0 : Int32) M s.heap [] ls hE jw (lv_sub hl [0, 1, 2, 3, 4] rfl)

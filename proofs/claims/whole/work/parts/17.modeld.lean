def lp_X10_findMoves_5 (Y : JY) (mm35 : JM) (o : Nat) (vv41 : Int32) (n : Nat) (vv44 : Int32) (vv45 : Int32) (vv46 : Int32) (vv47 : Int32) : Option (Int32 × Int32 × Int32) := match n with
  | 0 => none
  | n + 1 => if (mm35 o 29) ≤ vv47 then (some (vv44, vv45, vv46)) else ((s_X10_lengthFrom Y mm35 o vv41 vv47).bind fun xx49 => lt_ (if xx49 ≤ vv44 then (vv45) else (vv41)) fun xx59 => lt_ (if xx49 ≤ vv44 then (vv46) else (vv47)) fun xx58 => lt_ (s_X10_most Y mm35 vv44 xx49) fun vv56 => lt_ (vv47 + (1 : Int32)) fun vv57 => lp_X10_findMoves_5 Y mm35 o vv41 n vv56 xx59 xx58 vv57)
def lp_X10_findMoves_4 (Y : JY) (mm35 : JM) (o : Nat) (n : Nat) (vv38 : Int32) (vv39 : Int32) (vv40 : Int32) (vv41 : Int32) : Option (Int32 × Int32 × Int32) := match n with
  | 0 => none
  | n + 1 => if (mm35 o 27) ≤ vv41 then (some (vv38, vv39, vv40)) else ((lp_X10_findMoves_5 Y mm35 o vv41 j_fuel vv38 vv39 vv40 (0 : Int32)).bind fun xx64 => lt_ (vv41 + (1 : Int32)) fun vv63 => lp_X10_findMoves_4 Y mm35 o n xx64.1 xx64.2.1 xx64.2.2 vv63)
def lp_X10_findMoves_3 (Y : JY) (p1 : Int32) (o : Nat) (n : Nat) (vv34 : Int32) (mm35 : JM) : Option (JM) := match n with
  | 0 => none
  | n + 1 => if vv34 < p1 then (some mm35) else ((lp_X10_findMoves_4 Y mm35 o j_fuel (0 : Int32) (0 : Int32) (0 : Int32) (0 : Int32)).bind fun xx78 => if xx78.1 < p1 then (lp_X10_findMoves_3 Y p1 o n xx78.1 mm35) else ((s_X10_marks Y mm35 o xx78.2.1 xx78.2.2 xx78.1).bind fun xx69 => if j_g ((3 : Int32) * (xx69 o 33)) (j_ln Y (j_rf Y o 32)) then (lt_ (j_up xx69 (j_rf Y o 32) ((3 : Int32) * (xx69 o 33)).toNatClampNeg xx78.2.1) fun mm72 => if j_g (((3 : Int32) * (mm72 o 33)) + (1 : Int32)) (j_ln Y (j_rf Y o 32)) then (lt_ (j_up mm72 (j_rf Y o 32) (((3 : Int32) * (mm72 o 33)) + (1 : Int32)).toNatClampNeg xx78.2.2) fun mm74 => if j_g (((3 : Int32) * (mm74 o 33)) + (2 : Int32)) (j_ln Y (j_rf Y o 32)) then (lt_ (j_up mm74 (j_rf Y o 32) (((3 : Int32) * (mm74 o 33)) + (2 : Int32)).toNatClampNeg xx78.1) fun mm76 => lt_ (j_up mm76 o 33 ((mm76 o 33) + (1 : Int32))) fun mm77 => lp_X10_findMoves_3 Y p1 o n xx78.1 mm77) else none) else none) else none))
def lp_X10_findMoves_2 (Y : JY) (o : Nat) (n : Nat) (vv19 : Int32) (mm20 : JM) : Option (JM) := match n with
  | 0 => none
  | n + 1 => if (mm20 o 27) ≤ vv19 then (some mm20) else (if j_g vv19 (j_ln Y (j_rf Y o 30)) then ((if (mm20 (j_rf Y o 30) vv19.toNatClampNeg) < 0 then (some mm20) else (if j_g vv19 (j_ln Y (j_rf Y o 30)) then ((s_X10_marks Y mm20 o vv19 (mm20 (j_rf Y o 30) vv19.toNatClampNeg) (1 : Int32)).bind fun xx27 => some xx27) else none)).bind fun xx30 => lt_ (vv19 + (1 : Int32)) fun vv29 => lp_X10_findMoves_2 Y o n vv29 xx30) else none)
def lp_X10_findMoves_1 (Y : JY) (o : Nat) (n : Nat) (vv7 : Int32) (mm8 : JM) : Option (JM) := match n with
  | 0 => none
  | n + 1 => if (24 : Int32) ≤ vv7 then (some mm8) else (if j_g vv7 (j_ln Y (j_rf Y o 36)) then (lt_ (j_up mm8 (j_rf Y o 36) vv7.toNatClampNeg (0 : Int32)) fun mm12 => if j_g vv7 (j_ln Y (j_rf Y o 37)) then (lt_ (j_up mm12 (j_rf Y o 37) vv7.toNatClampNeg (0 : Int32)) fun mm15 => lt_ (vv7 + (1 : Int32)) fun vv16 => lp_X10_findMoves_1 Y o n vv16 mm15) else none) else none)
def s_X10_findMoves (Y : JY) (M : JM) (o : Nat) (p1 : Int32) : Option (Int32 × JM) := if (s_X10_in Y M p1 (1 : Int32) (9 : Int32)) = 0 then (lt_ (s_X10_fails Y M o (1 : Int32)) fun xx3 => some (xx3.1, xx3.2)) else (if (j_z (M o 25)) = 0 then (lt_ (s_X10_fails Y M o (2 : Int32)) fun xx5 => some (xx5.1, xx5.2)) else ((lp_X10_findMoves_1 Y o j_fuel (0 : Int32) M).bind fun xx83 => (lp_X10_findMoves_2 Y o j_fuel (0 : Int32) xx83).bind fun xx82 => lt_ (j_up xx82 o 33 (0 : Int32)) fun mm32 => (lp_X10_findMoves_3 Y p1 o j_fuel (24 : Int32) mm32).bind fun xx81 => lt_ (s_X10_done Y xx81 o (xx81 o 33)) fun xx80 => some (xx80.1, xx80.2)))
set_option maxRecDepth 100000 in
set_option maxHeartbeats 4000000 in
theorem c_X10_findMoves {D : va_G} {Y : JY} {ty : Nat → ClassId} {ad : Nat → Nat} {sz : Nat} {l : Launch} {M : JM} (hY : j_ok Y) {o : Nat} {p1 : Int32} (ho : j_kd Y o = 10) {r : Int32 × JM} (hE : s_X10_findMoves Y M o p1 = some r) : JMi D Y ty ad sz l yX10_findMoves cX10_findMoves 8 (some .int) 1 24 [.ref (ad o), .int p1] M r.1 r.2 := by
  refine j_ofI hY (by decide +kernel) (Nat.le_of_ble_eq_true rfl) (fun p e s m below meth c args R Q A hRf hRl hA jc jw kr ls hl => ?_)
  have hx := jc.1
  have hb := jc.2.1
  have hl : lv_has ls 8 [(0, .ref (ad o)), (1, .int p1)] := hl
  unfold s_X10_findMoves at hE
  obtain ⟨G0, eG0, hG0, hE⟩ := j_F0o hE
  refine lv_iload_n hx hb dX10_findMoves_0 rfl (lv_at hl 1 rfl) ?_
  refine lv_iconst (v := 1) hx hb dX10_findMoves_1 (by decide) ?_
  refine lv_bipush (v := 9) hx hb dX10_findMoves_2 (by decide) ?_
  refine jc_sz [.int p1, .int (1 : Int32), .int (9 : Int32)] [] jc jw hA (c_X10_in hY  (M := M) rfl) sd_X10_119 rfl hl.1 (j_hR hRf hRl rfl rfl) (Nat.le_of_ble_eq_true rfl) dX10_findMoves_4 (fun H locs jw hz => ?_)
  have z_1 := hz
  refine lv_if_ne (tgt := 16) hx hb dX10_findMoves_7 (by decide) (fun c2 => ?_) (fun c2 => ?_)
  · rw [if_neg c2] at hE
    refine lv_aload_n hx hb dX10_findMoves_16 rfl (lv_at hl 0 rfl) ?_
    refine jg_10_25 jc jw ho wd_6_84 dX10_findMoves_17 ?_
    refine lv_if_ne (tgt := 29) hx hb dX10_findMoves_20 (by decide) (fun c4 => ?_) (fun c4 => ?_)
    · rw [if_neg c4] at hE
      refine lv_iconst (v := 0) hx hb dX10_findMoves_29 (by decide) ?_
      refine lv_istore_n (lv' := [(2, .int (0 : Int32)), (0, .ref (ad o)), (1, .int p1)]) hx hb dX10_findMoves_30 rfl hl (by decide) rfl (fun ls hl => ?_)
      obtain ⟨G6, eG6, hG6, hE⟩ := j_ctxB hG0 hE
      have E6_57 : ∀ (mm17 : JM)  (H : Heap) (locs : List Loc) (ls : Array Slot), G6 (some mm17) = some r → JW D Y ty ad A s.heap mm17 H locs → lv_has ls 8 [(0, .ref (ad o)), (1, .int p1)] → W p l e R s m args below meth c H locs 0 0 Q (F0 m 57 ls []) := by
        intro mm17  H locs ls hE jw hl
        replace hE := j_popB eG6 hE
        try dsimp only at hE
        refine lv_iconst (v := 0) hx hb dX10_findMoves_57 (by decide) ?_
        refine lv_istore_n (lv' := [(2, .int (0 : Int32)), (0, .ref (ad o)), (1, .int p1)]) hx hb dX10_findMoves_58 rfl hl (by decide) rfl (fun ls hl => ?_)
        obtain ⟨G18, eG18, hG18, hE⟩ := j_ctxB hG0 hE
        have E18_94 : ∀ (mm31 : JM)  (H : Heap) (locs : List Loc) (ls : Array Slot), G18 (some mm31) = some r → JW D Y ty ad A s.heap mm31 H locs → lv_has ls 8 [(0, .ref (ad o)), (1, .int p1)] → W p l e R s m args below meth c H locs 0 0 Q (F0 m 94 ls []) := by
          intro mm31  H locs ls hE jw hl
          replace hE := j_popB eG18 hE
          try dsimp only at hE
          refine lv_aload_n hx hb dX10_findMoves_94 rfl (lv_at hl 0 rfl) ?_
          refine lv_iconst (v := 0) hx hb dX10_findMoves_95 (by decide) ?_
          refine js_10_33 jc jw ho wd_6_92 dX10_findMoves_96 (fun H locs jw => ?_)
          obtain ⟨mm32, emm32, hE⟩ := j_lv hE
          rw [← emm32] at jw
          try dsimp only at hE
          refine lv_bipush (v := 24) hx hb dX10_findMoves_99 (by decide) ?_
          refine lv_istore_n (lv' := [(2, .int (24 : Int32)), (0, .ref (ad o)), (1, .int p1)]) hx hb dX10_findMoves_101 rfl hl (by decide) rfl (fun ls hl => ?_)
          obtain ⟨G33, eG33, hG33, hE⟩ := j_ctxB hG0 hE
          have E33_262 : ∀ (mm79 : JM)  (H : Heap) (locs : List Loc) (ls : Array Slot), G33 (some mm79) = some r → JW D Y ty ad A s.heap mm79 H locs → lv_has ls 8 [(0, .ref (ad o))] → W p l e R s m args below meth c H locs 0 0 Q (F0 m 262 ls []) := by
            intro mm79  H locs ls hE jw hl
            replace hE := j_popB eG33 hE
            try dsimp only at hE
            refine lv_aload_n hx hb dX10_findMoves_262 rfl (lv_at hl 0 rfl) ?_
            refine lv_aload_n hx hb dX10_findMoves_263 rfl (lv_at hl 0 rfl) ?_
            refine jg_10_33 jc jw ho wd_6_92 dX10_findMoves_264 ?_
            obtain ⟨xx80, exx80, hE⟩ := j_lv hE
            try dsimp only at hE
            refine jc_vi [.int (mm79 o 33)] [] jc jw hA ho (by decide) rfl (c_X10_done hY ho (M := mm79) exx80.symm) sd_X10_138 rfl hl.1 (j_hR hRf hRl rfl rfl) (Nat.le_of_ble_eq_true rfl) dX10_findMoves_267 (fun H locs jw => ?_)
            exact kr _ _ _ _ _ _ (congrArg Prod.fst (Option.some.inj (j_ret eG0 hE))) (congrArg Prod.snd (Option.some.inj (j_ret eG0 hE))) jw dX10_findMoves_270
          have LP33 : ∀ (n : Nat) (vv34 : Int32) (mm35 : JM) (H : Heap) (locs : List Loc) (ls : Array Slot), G33 (lp_X10_findMoves_3 Y p1 o n vv34 mm35) = some r → JW D Y ty ad A s.heap mm35 H locs → lv_has ls 8 [(2, .int vv34), (0, .ref (ad o)), (1, .int p1)] → W p l e R s m args below meth c H locs 0 0 Q (F0 m 102 ls []) := by
            intro n
            induction n with
            | zero => intro vv34 mm35 H locs ls hE jw hl; exact absurd hE (hG33 _)
            | succ n ih =>
              intro vv34 mm35 H locs ls hE jw hl
              rw [lp_X10_findMoves_3] at hE
              refine lv_iload_n hx hb dX10_findMoves_102 rfl (lv_at hl 0 rfl) ?_
              refine lv_iload_n hx hb dX10_findMoves_103 rfl (lv_at hl 2 rfl) ?_
              refine lv_icmp_lt (tgt := 262) hx hb dX10_findMoves_104 (by decide) (fun c36 => ?_) (fun c36 => ?_)
              · rw [if_pos c36] at hE
                exact E33_262 mm35  H locs ls hE jw (lv_sub hl [1] rfl)
              · rw [if_neg c36] at hE
                refine lv_iconst (v := 0) hx hb dX10_findMoves_107 (by decide) ?_
                refine lv_istore_n (lv' := [(2, .int (0 : Int32)), (0, .ref (ad o)), (1, .int p1)]) hx hb dX10_findMoves_108 rfl hl (by decide) rfl (fun ls hl => ?_)
                refine lv_iconst (v := 0) hx hb dX10_findMoves_109 (by decide) ?_
                refine lv_istore_n (lv' := [(3, .int (0 : Int32)), (2, .int (0 : Int32)), (0, .ref (ad o)), (1, .int p1)]) hx hb dX10_findMoves_110 rfl hl (by decide) rfl (fun ls hl => ?_)
                refine lv_iconst (v := 0) hx hb dX10_findMoves_111 (by decide) ?_
                refine lv_istore (lv' := [(4, .int (0 : Int32)), (3, .int (0 : Int32)), (2, .int (0 : Int32)), (0, .ref (ad o)), (1, .int p1)]) hx hb dX10_findMoves_112 hl (by decide) rfl (fun ls hl => ?_)
                refine lv_iconst (v := 0) hx hb dX10_findMoves_114 (by decide) ?_
                refine lv_istore (lv' := [(5, .int (0 : Int32)), (4, .int (0 : Int32)), (3, .int (0 : Int32)), (2, .int (0 : Int32)), (0, .ref (ad o)), (1, .int p1)]) hx hb dX10_findMoves_115 hl (by decide) rfl (fun ls hl => ?_)
                obtain ⟨G37, eG37, hG37, hE⟩ := j_ctxB hG33 hE
                have E37_195 : ∀ (vv65 : Int32) (vv66 : Int32) (vv67 : Int32)  (H : Heap) (locs : List Loc) (ls : Array Slot), G37 (some (vv65, vv66, vv67)) = some r → JW D Y ty ad A s.heap mm35 H locs → lv_has ls 8 [(4, .int vv67), (3, .int vv66), (2, .int vv65), (0, .ref (ad o)), (1, .int p1)] → W p l e R s m args below meth c H locs 0 0 Q (F0 m 195 ls []) := by
                  intro vv65 vv66 vv67  H locs ls hE jw hl
                  replace hE := j_popB eG37 hE
                  try dsimp only at hE
                  refine lv_iload_n hx hb dX10_findMoves_195 rfl (lv_at hl 2 rfl) ?_
                  refine lv_iload_n hx hb dX10_findMoves_196 rfl (lv_at hl 4 rfl) ?_
                  refine lv_icmp_lt (tgt := 259) hx hb dX10_findMoves_197 (by decide) (fun c68 => ?_) (fun c68 => ?_)
                  · rw [if_pos c68] at hE
                    refine lv_goto (tgt := 102) hx hb dX10_findMoves_259 (by decide) ?_
                    exact ih vv65 mm35 H locs ls hE jw (lv_sub hl [2, 3, 4] rfl)
                  · rw [if_neg c68] at hE
                    refine lv_aload_n hx hb dX10_findMoves_200 rfl (lv_at hl 3 rfl) ?_
                    refine lv_iload_n hx hb dX10_findMoves_201 rfl (lv_at hl 1 rfl) ?_
                    refine lv_iload hx hb dX10_findMoves_202 (lv_at hl 0 rfl) ?_
                    refine lv_iload_n hx hb dX10_findMoves_204 rfl (lv_at hl 2 rfl) ?_
                    obtain ⟨xx69, exx69, hE⟩ := j_bd hG33 hE
                    try dsimp only at hE
                    refine jc_vv [.int vv66, .int vv67, .int vv65] [] jc jw hA ho (by decide) rfl (c_X10_marks hY ho (M := mm35) exx69) sd_X10_239 rfl hl.1 (j_hR hRf hRl rfl rfl) (Nat.le_of_ble_eq_true rfl) dX10_findMoves_205 (fun H locs jw => ?_)
                    refine lv_aload_n hx hb dX10_findMoves_208 rfl (lv_at hl 3 rfl) ?_
                    refine jg_10_32 jc jw ho wd_6_91 dX10_findMoves_209 ?_
                    have k70 := j_sub hY ho 32 (f := 100) rfl (by decide) (by decide) (by decide)
                    refine lv_iconst (v := 3) hx hb dX10_findMoves_212 (by decide) ?_
                    refine lv_aload_n hx hb dX10_findMoves_213 rfl (lv_at hl 3 rfl) ?_
                    refine jg_10_33 jc jw ho wd_6_92 dX10_findMoves_214 ?_
                    refine lv_imul hx hb dX10_findMoves_217 ?_
                    refine lv_iload_n hx hb dX10_findMoves_218 rfl (lv_at hl 1 rfl) ?_
                    rcases Classical.em (j_g ((3 : Int32) * (xx69 o 33)) (j_ln Y (j_rf Y o 32))) with g71 | g71
                    case inr => rw [if_neg g71] at hE; exact absurd hE (hG33 _)
                    rw [if_pos g71] at hE
                    refine jr_iast jc jw k70 (j_g_in g71) dX10_findMoves_219 (fun H locs jw => ?_)
                    obtain ⟨mm72, emm72, hE⟩ := j_lv hE
                    rw [← emm72] at jw
                    try dsimp only at hE
                    refine lv_aload_n hx hb dX10_findMoves_220 rfl (lv_at hl 3 rfl) ?_
                    refine jg_10_32 jc jw ho wd_6_91 dX10_findMoves_221 ?_
                    refine lv_iconst (v := 3) hx hb dX10_findMoves_224 (by decide) ?_
                    refine lv_aload_n hx hb dX10_findMoves_225 rfl (lv_at hl 3 rfl) ?_
                    refine jg_10_33 jc jw ho wd_6_92 dX10_findMoves_226 ?_
                    refine lv_imul hx hb dX10_findMoves_229 ?_
                    refine lv_iconst (v := 1) hx hb dX10_findMoves_230 (by decide) ?_
                    refine lv_iadd hx hb dX10_findMoves_231 ?_
                    refine lv_iload hx hb dX10_findMoves_232 (lv_at hl 0 rfl) ?_
                    rcases Classical.em (j_g (((3 : Int32) * (mm72 o 33)) + (1 : Int32)) (j_ln Y (j_rf Y o 32))) with g73 | g73
                    case inr => rw [if_neg g73] at hE; exact absurd hE (hG33 _)
                    rw [if_pos g73] at hE
                    refine jr_iast jc jw k70 (j_g_in g73) dX10_findMoves_234 (fun H locs jw => ?_)
                    obtain ⟨mm74, emm74, hE⟩ := j_lv hE
                    rw [← emm74] at jw
                    try dsimp only at hE
                    refine lv_aload_n hx hb dX10_findMoves_235 rfl (lv_at hl 3 rfl) ?_
                    refine jg_10_32 jc jw ho wd_6_91 dX10_findMoves_236 ?_
                    refine lv_iconst (v := 3) hx hb dX10_findMoves_239 (by decide) ?_
                    refine lv_aload_n hx hb dX10_findMoves_240 rfl (lv_at hl 3 rfl) ?_
                    refine jg_10_33 jc jw ho wd_6_92 dX10_findMoves_241 ?_
                    refine lv_imul hx hb dX10_findMoves_244 ?_
                    refine lv_iconst (v := 2) hx hb dX10_findMoves_245 (by decide) ?_
                    refine lv_iadd hx hb dX10_findMoves_246 ?_
                    refine lv_iload_n hx hb dX10_findMoves_247 rfl (lv_at hl 2 rfl) ?_
                    rcases Classical.em (j_g (((3 : Int32) * (mm74 o 33)) + (2 : Int32)) (j_ln Y (j_rf Y o 32))) with g75 | g75
                    case inr => rw [if_neg g75] at hE; exact absurd hE (hG33 _)
                    rw [if_pos g75] at hE
                    refine jr_iast jc jw k70 (j_g_in g75) dX10_findMoves_248 (fun H locs jw => ?_)
                    obtain ⟨mm76, emm76, hE⟩ := j_lv hE
                    rw [← emm76] at jw
                    try dsimp only at hE
                    refine lv_aload_n hx hb dX10_findMoves_249 rfl (lv_at hl 3 rfl) ?_
                    refine lv_dup hx hb dX10_findMoves_250 rfl ?_
                    refine jg_10_33 jc jw ho wd_6_92 dX10_findMoves_251 ?_
                    refine lv_iconst (v := 1) hx hb dX10_findMoves_254 (by decide) ?_
                    refine lv_iadd hx hb dX10_findMoves_255 ?_
                    refine js_10_33 jc jw ho wd_6_92 dX10_findMoves_256 (fun H locs jw => ?_)
                    obtain ⟨mm77, emm77, hE⟩ := j_lv hE
                    rw [← emm77] at jw
                    try dsimp only at hE
                    refine lv_goto (tgt := 102) hx hb dX10_findMoves_259 (by decide) ?_
                    exact ih vv65 mm77 H locs ls hE jw (lv_sub hl [2, 3, 4] rfl)
                have LP37 : ∀ (n : Nat) (vv38 : Int32) (vv39 : Int32) (vv40 : Int32) (vv41 : Int32) (H : Heap) (locs : List Loc) (ls : Array Slot), G37 (lp_X10_findMoves_4 Y mm35 o n vv38 vv39 vv40 vv41) = some r → JW D Y ty ad A s.heap mm35 H locs → lv_has ls 8 [(5, .int vv41), (4, .int vv40), (3, .int vv39), (2, .int vv38), (0, .ref (ad o)), (1, .int p1)] → W p l e R s m args below meth c H locs 0 0 Q (F0 m 117 ls []) := by
                  intro n
                  induction n with
                  | zero => intro vv38 vv39 vv40 vv41 H locs ls hE jw hl; exact absurd hE (hG37 _)
                  | succ n ih =>
                    intro vv38 vv39 vv40 vv41 H locs ls hE jw hl
                    rw [lp_X10_findMoves_4] at hE
                    refine lv_iload hx hb dX10_findMoves_117 (lv_at hl 0 rfl) ?_
                    refine lv_aload_n hx hb dX10_findMoves_119 rfl (lv_at hl 4 rfl) ?_
                    refine jg_10_27 jc jw ho wd_6_86 dX10_findMoves_120 ?_
                    refine lv_icmp_ge (tgt := 195) hx hb dX10_findMoves_123 (by decide) (fun c42 => ?_) (fun c42 => ?_)
                    · rw [if_pos c42] at hE
                      exact E37_195 vv38 vv39 vv40  H locs ls hE jw (lv_sub hl [1, 2, 3, 4, 5] rfl)
                    · rw [if_neg c42] at hE
                      refine lv_iconst (v := 0) hx hb dX10_findMoves_126 (by decide) ?_
                      refine lv_istore (lv' := [(6, .int (0 : Int32)), (5, .int vv41), (4, .int vv40), (3, .int vv39), (2, .int vv38), (0, .ref (ad o)), (1, .int p1)]) hx hb dX10_findMoves_127 hl (by decide) rfl (fun ls hl => ?_)
                      obtain ⟨G43, eG43, hG43, hE⟩ := j_ctxB hG37 hE
                      have E43_189 : ∀ (vv60 : Int32) (vv61 : Int32) (vv62 : Int32)  (H : Heap) (locs : List Loc) (ls : Array Slot), G43 (some (vv60, vv61, vv62)) = some r → JW D Y ty ad A s.heap mm35 H locs → lv_has ls 8 [(5, .int vv41), (4, .int vv62), (3, .int vv61), (2, .int vv60), (0, .ref (ad o)), (1, .int p1)] → W p l e R s m args below meth c H locs 0 0 Q (F0 m 189 ls []) := by
                        intro vv60 vv61 vv62  H locs ls hE jw hl
                        replace hE := j_popB eG43 hE
                        try dsimp only at hE
                        obtain ⟨vv63, evv63, hE⟩ := j_lv hE
                        try dsimp only at hE
                        refine lv_iinc (v := vv63) (lv' := [(5, .int vv63), (4, .int vv62), (3, .int vv61), (2, .int vv60), (0, .ref (ad o)), (1, .int p1)]) hx hb dX10_findMoves_189 hl (k := 0) rfl (by rw [evv63]; rfl) (by decide) rfl (fun ls hl => ?_)
                        refine lv_goto (tgt := 117) hx hb dX10_findMoves_192 (by decide) ?_
                        exact ih vv60 vv61 vv62 vv63 H locs ls hE jw (lv_sub hl [0, 1, 2, 3, 4, 5] rfl)
                      have LP43 : ∀ (n : Nat) (vv44 : Int32) (vv45 : Int32) (vv46 : Int32) (vv47 : Int32) (H : Heap) (locs : List Loc) (ls : Array Slot), G43 (lp_X10_findMoves_5 Y mm35 o vv41 n vv44 vv45 vv46 vv47) = some r → JW D Y ty ad A s.heap mm35 H locs → lv_has ls 8 [(6, .int vv47), (5, .int vv41), (4, .int vv46), (3, .int vv45), (2, .int vv44), (0, .ref (ad o)), (1, .int p1)] → W p l e R s m args below meth c H locs 0 0 Q (F0 m 129 ls []) := by
                        intro n
                        induction n with
                        | zero => intro vv44 vv45 vv46 vv47 H locs ls hE jw hl; exact absurd hE (hG43 _)
                        | succ n ih =>
                          intro vv44 vv45 vv46 vv47 H locs ls hE jw hl
                          rw [lp_X10_findMoves_5] at hE
                          refine lv_iload hx hb dX10_findMoves_129 (lv_at hl 0 rfl) ?_
                          refine lv_aload_n hx hb dX10_findMoves_131 rfl (lv_at hl 5 rfl) ?_
                          refine jg_10_29 jc jw ho wd_6_88 dX10_findMoves_132 ?_
                          refine lv_icmp_ge (tgt := 189) hx hb dX10_findMoves_135 (by decide) (fun c48 => ?_) (fun c48 => ?_)
                          · rw [if_pos c48] at hE
                            exact E43_189 vv44 vv45 vv46  H locs ls hE jw (lv_sub hl [1, 2, 3, 4, 5, 6] rfl)
                          · rw [if_neg c48] at hE
                            refine lv_aload_n hx hb dX10_findMoves_138 rfl (lv_at hl 5 rfl) ?_
                            refine lv_iload hx hb dX10_findMoves_139 (lv_at hl 1 rfl) ?_
                            refine lv_iload hx hb dX10_findMoves_141 (lv_at hl 0 rfl) ?_
                            obtain ⟨xx49, exx49, hE⟩ := j_bd hG43 hE
                            try dsimp only at hE
                            refine jc_vi [.int vv41, .int vv47] [] jc jw hA ho (by decide) rfl (c_X10_lengthFrom hY ho (M := mm35) exx49) sd_X10_243 rfl hl.1 (j_hR hRf hRl rfl rfl) (Nat.le_of_ble_eq_true rfl) dX10_findMoves_143 (fun H locs jw => ?_)
                            refine lv_istore (lv' := [(7, .int xx49), (6, .int vv47), (5, .int vv41), (4, .int vv46), (3, .int vv45), (2, .int vv44), (0, .ref (ad o)), (1, .int p1)]) hx hb dX10_findMoves_146 hl (by decide) rfl (fun ls hl => ?_)
                            refine lv_iload hx hb dX10_findMoves_148 (lv_at hl 0 rfl) ?_
                            refine lv_iload_n hx hb dX10_findMoves_150 rfl (lv_at hl 5 rfl) ?_
                            obtain ⟨G51, eG51, hE⟩ := j_ctxL hE
                            have J51 : ∀ (vv52 : Int32)  (H : Heap) (locs : List Loc) (ls : Array Slot), G51 (vv52) = some r → JW D Y ty ad A s.heap mm35 H locs → lv_has ls 8 [(7, .int xx49), (6, .int vv47), (5, .int vv41), (4, .int vv46), (2, .int vv44), (0, .ref (ad o)), (1, .int p1)] → W p l e R s m args below meth c H locs 0 0 Q (F0 m 160 ls [.int vv52]) := by
                              intro vv52  H locs ls hE jw hl
                              replace hE := j_popL eG51 hE
                              try dsimp only at hE
                              refine lv_istore_n (lv' := [(3, .int vv52), (7, .int xx49), (6, .int vv47), (5, .int vv41), (4, .int vv46), (2, .int vv44), (0, .ref (ad o)), (1, .int p1)]) hx hb dX10_findMoves_160 rfl hl (by decide) rfl (fun ls hl => ?_)
                              refine lv_iload hx hb dX10_findMoves_161 (lv_at hl 1 rfl) ?_
                              refine lv_iload_n hx hb dX10_findMoves_163 rfl (lv_at hl 5 rfl) ?_
                              obtain ⟨G54, eG54, hE⟩ := j_ctxL hE
                              have J54 : ∀ (vv55 : Int32)  (H : Heap) (locs : List Loc) (ls : Array Slot), G54 (vv55) = some r → JW D Y ty ad A s.heap mm35 H locs → lv_has ls 8 [(3, .int vv52), (7, .int xx49), (6, .int vv47), (5, .int vv41), (2, .int vv44), (0, .ref (ad o)), (1, .int p1)] → W p l e R s m args below meth c H locs 0 0 Q (F0 m 174 ls [.int vv55]) := by
                                intro vv55  H locs ls hE jw hl
                                replace hE := j_popL eG54 hE
                                try dsimp only at hE
                                refine lv_istore (lv' := [(4, .int vv55), (3, .int vv52), (7, .int xx49), (6, .int vv47), (5, .int vv41), (2, .int vv44), (0, .ref (ad o)), (1, .int p1)]) hx hb dX10_findMoves_174 hl (by decide) rfl (fun ls hl => ?_)
                                refine lv_iload_n hx hb dX10_findMoves_176 rfl (lv_at hl 5 rfl) ?_
                                refine lv_iload hx hb dX10_findMoves_177 (lv_at hl 2 rfl) ?_
                                refine jc_si [.int vv44, .int xx49] [] jc jw hA (c_X10_most hY  (M := mm35) rfl) sd_X10_182 rfl hl.1 (j_hR hRf hRl rfl rfl) (Nat.le_of_ble_eq_true rfl) dX10_findMoves_179 (fun H locs jw => ?_)
                                refine lv_topi (fun vv56 evv56 => ?_)
                                replace hE := j_lu hE evv56
                                try dsimp only at hE
                                refine lv_istore_n (lv' := [(2, .int vv56), (4, .int vv55), (3, .int vv52), (7, .int xx49), (6, .int vv47), (5, .int vv41), (0, .ref (ad o)), (1, .int p1)]) hx hb dX10_findMoves_182 rfl hl (by decide) rfl (fun ls hl => ?_)
                                obtain ⟨vv57, evv57, hE⟩ := j_lv hE
                                try dsimp only at hE
                                refine lv_iinc (v := vv57) (lv' := [(6, .int vv57), (2, .int vv56), (4, .int vv55), (3, .int vv52), (7, .int xx49), (5, .int vv41), (0, .ref (ad o)), (1, .int p1)]) hx hb dX10_findMoves_183 hl (k := 4) rfl (by rw [evv57]; rfl) (by decide) rfl (fun ls hl => ?_)
                                refine lv_goto (tgt := 129) hx hb dX10_findMoves_186 (by decide) ?_
                                exact ih vv56 vv52 vv55 vv57 H locs ls hE jw (lv_sub hl [0, 5, 2, 3, 1, 6, 7] rfl)
                              refine lv_icmp_le (tgt := 172) hx hb dX10_findMoves_164 (by decide) (fun c53 => ?_) (fun c53 => ?_)
                              · rw [if_pos c53] at hE
                                refine lv_iload hx hb dX10_findMoves_172 (lv_at hl 4 rfl) ?_
                                exact J54 vv46  H locs ls hE jw (lv_sub hl [0, 1, 2, 3, 5, 6, 7] rfl)
                              · rw [if_neg c53] at hE
                                refine lv_iload hx hb dX10_findMoves_167 (lv_at hl 2 rfl) ?_
                                refine lv_goto (tgt := 174) hx hb dX10_findMoves_169 (by decide) ?_
                                exact J54 vv47  H locs ls hE jw (lv_sub hl [0, 1, 2, 3, 5, 6, 7] rfl)
                            refine lv_icmp_le (tgt := 159) hx hb dX10_findMoves_151 (by decide) (fun c50 => ?_) (fun c50 => ?_)
                            · rw [if_pos c50] at hE
                              refine lv_iload_n hx hb dX10_findMoves_159 rfl (lv_at hl 4 rfl) ?_
                              exact J51 vv45  H locs ls hE jw (lv_sub hl [0, 1, 2, 3, 5, 6, 7] rfl)
                            · rw [if_neg c50] at hE
                              refine lv_iload hx hb dX10_findMoves_154 (lv_at hl 2 rfl) ?_
                              refine lv_goto (tgt := 160) hx hb dX10_findMoves_156 (by decide) ?_
                              exact J51 vv41  H locs ls hE jw (lv_sub hl [0, 1, 2, 3, 5, 6, 7] rfl)
                      exact LP43 j_fuel vv38 vv39 vv40 (0 : Int32) H locs ls hE jw (lv_sub hl [0, 1, 2, 3, 4, 5, 6] rfl)
                exact LP37 j_fuel (0 : Int32) (0 : Int32) (0 : Int32) (0 : Int32) H locs ls hE jw (lv_sub hl [0, 1, 2, 3, 4, 5] rfl)
          exact LP33 j_fuel (24 : Int32) mm32 H locs ls hE jw (lv_sub hl [0, 1, 2] rfl)
        have LP18 : ∀ (n : Nat) (vv19 : Int32) (mm20 : JM) (H : Heap) (locs : List Loc) (ls : Array Slot), G18 (lp_X10_findMoves_2 Y o n vv19 mm20) = some r → JW D Y ty ad A s.heap mm20 H locs → lv_has ls 8 [(2, .int vv19), (0, .ref (ad o)), (1, .int p1)] → W p l e R s m args below meth c H locs 0 0 Q (F0 m 59 ls []) := by
          intro n
          induction n with
          | zero => intro vv19 mm20 H locs ls hE jw hl; exact absurd hE (hG18 _)
          | succ n ih =>
            intro vv19 mm20 H locs ls hE jw hl
            rw [lp_X10_findMoves_2] at hE
            refine lv_iload_n hx hb dX10_findMoves_59 rfl (lv_at hl 0 rfl) ?_
            refine lv_aload_n hx hb dX10_findMoves_60 rfl (lv_at hl 1 rfl) ?_
            refine jg_10_27 jc jw ho wd_6_86 dX10_findMoves_61 ?_
            refine lv_icmp_ge (tgt := 94) hx hb dX10_findMoves_64 (by decide) (fun c21 => ?_) (fun c21 => ?_)
            · rw [if_pos c21] at hE
              exact E18_94 mm20  H locs ls hE jw (lv_sub hl [1, 2] rfl)
            · rw [if_neg c21] at hE
              refine lv_aload_n hx hb dX10_findMoves_67 rfl (lv_at hl 1 rfl) ?_
              refine jg_10_30 jc jw ho wd_6_89 dX10_findMoves_68 ?_
              have k22 := j_sub hY ho 30 (f := 100) rfl (by decide) (by decide) (by decide)
              refine lv_iload_n hx hb dX10_findMoves_71 rfl (lv_at hl 0 rfl) ?_
              rcases Classical.em (j_g vv19 (j_ln Y (j_rf Y o 30))) with g23 | g23
              case inr => rw [if_neg g23] at hE; exact absurd hE (hG18 _)
              rw [if_pos g23] at hE
              refine jr_iald jc jw k22 (j_g_in g23) dX10_findMoves_72 ?_
              obtain ⟨G25, eG25, hG25, hE⟩ := j_ctxB hG18 hE
              have J25 : ∀ (mm28 : JM)  (H : Heap) (locs : List Loc) (ls : Array Slot), G25 (some mm28) = some r → JW D Y ty ad A s.heap mm28 H locs → lv_has ls 8 [(2, .int vv19), (0, .ref (ad o)), (1, .int p1)] → W p l e R s m args below meth c H locs 0 0 Q (F0 m 88 ls []) := by
                intro mm28  H locs ls hE jw hl
                replace hE := j_popB eG25 hE
                try dsimp only at hE
                obtain ⟨vv29, evv29, hE⟩ := j_lv hE
                try dsimp only at hE
                refine lv_iinc (v := vv29) (lv' := [(2, .int vv29), (0, .ref (ad o)), (1, .int p1)]) hx hb dX10_findMoves_88 hl (k := 0) rfl (by rw [evv29]; rfl) (by decide) rfl (fun ls hl => ?_)
                refine lv_goto (tgt := 59) hx hb dX10_findMoves_91 (by decide) ?_
                exact ih vv29 mm28 H locs ls hE jw (lv_sub hl [0, 1, 2] rfl)
              refine lv_if_lt (tgt := 88) hx hb dX10_findMoves_73 (by decide) (fun c24 => ?_) (fun c24 => ?_)
              · rw [if_pos c24] at hE
                exact J25 mm20  H locs ls hE jw (lv_sub hl [0, 1, 2] rfl)
              · rw [if_neg c24] at hE
                refine lv_aload_n hx hb dX10_findMoves_76 rfl (lv_at hl 1 rfl) ?_
                refine lv_iload_n hx hb dX10_findMoves_77 rfl (lv_at hl 0 rfl) ?_
                refine lv_aload_n hx hb dX10_findMoves_78 rfl (lv_at hl 1 rfl) ?_
                refine jg_10_30 jc jw ho wd_6_89 dX10_findMoves_79 ?_
                refine lv_iload_n hx hb dX10_findMoves_82 rfl (lv_at hl 0 rfl) ?_
                rcases Classical.em (j_g vv19 (j_ln Y (j_rf Y o 30))) with g26 | g26
                case inr => rw [if_neg g26] at hE; exact absurd hE (hG25 _)
                rw [if_pos g26] at hE
                refine jr_iald jc jw k22 (j_g_in g26) dX10_findMoves_83 ?_
                refine lv_iconst (v := 1) hx hb dX10_findMoves_84 (by decide) ?_
                obtain ⟨xx27, exx27, hE⟩ := j_bd hG25 hE
                try dsimp only at hE
                refine jc_vv [.int vv19, .int (mm20 (j_rf Y o 30) vv19.toNatClampNeg), .int (1 : Int32)] [] jc jw hA ho (by decide) rfl (c_X10_marks hY ho (M := mm20) exx27) sd_X10_239 rfl hl.1 (j_hR hRf hRl rfl rfl) (Nat.le_of_ble_eq_true rfl) dX10_findMoves_85 (fun H locs jw => ?_)
                exact J25 xx27  H locs ls hE jw (lv_sub hl [0, 1, 2] rfl)
        exact LP18 j_fuel (0 : Int32) mm17 H locs ls hE jw (lv_sub hl [0, 1, 2] rfl)
      have LP6 : ∀ (n : Nat) (vv7 : Int32) (mm8 : JM) (H : Heap) (locs : List Loc) (ls : Array Slot), G6 (lp_X10_findMoves_1 Y o n vv7 mm8) = some r → JW D Y ty ad A s.heap mm8 H locs → lv_has ls 8 [(2, .int vv7), (0, .ref (ad o)), (1, .int p1)] → W p l e R s m args below meth c H locs 0 0 Q (F0 m 31 ls []) := by
        intro n
        induction n with
        | zero => intro vv7 mm8 H locs ls hE jw hl; exact absurd hE (hG6 _)
        | succ n ih =>
          intro vv7 mm8 H locs ls hE jw hl
          rw [lp_X10_findMoves_1] at hE
          refine lv_iload_n hx hb dX10_findMoves_31 rfl (lv_at hl 0 rfl) ?_
          refine lv_bipush (v := 24) hx hb dX10_findMoves_32 (by decide) ?_
          refine lv_icmp_ge (tgt := 57) hx hb dX10_findMoves_34 (by decide) (fun c9 => ?_) (fun c9 => ?_)
          · rw [if_pos c9] at hE
            exact E6_57 mm8  H locs ls hE jw (lv_sub hl [1, 2] rfl)
          · rw [if_neg c9] at hE
            refine lv_aload_n hx hb dX10_findMoves_37 rfl (lv_at hl 1 rfl) ?_
            refine jg_10_36 jc jw ho wd_6_95 dX10_findMoves_38 ?_
            have k10 := j_sub hY ho 36 (f := 101) rfl (by decide) (by decide) (by decide)
            refine lv_iload_n hx hb dX10_findMoves_41 rfl (lv_at hl 0 rfl) ?_
            refine lv_iconst (v := 0) hx hb dX10_findMoves_42 (by decide) ?_
            rcases Classical.em (j_g vv7 (j_ln Y (j_rf Y o 36))) with g11 | g11
            case inr => rw [if_neg g11] at hE; exact absurd hE (hG6 _)
            rw [if_pos g11] at hE
            refine jr_zast jc jw k10 rfl (j_g_in g11) dX10_findMoves_43 (fun H locs jw => ?_)
            obtain ⟨mm12, emm12, hE⟩ := j_lv hE
            rw [← emm12] at jw
            try dsimp only at hE
            refine lv_aload_n hx hb dX10_findMoves_44 rfl (lv_at hl 1 rfl) ?_
            refine jg_10_37 jc jw ho wd_6_96 dX10_findMoves_45 ?_
            have k13 := j_sub hY ho 37 (f := 101) rfl (by decide) (by decide) (by decide)
            refine lv_iload_n hx hb dX10_findMoves_48 rfl (lv_at hl 0 rfl) ?_
            refine lv_iconst (v := 0) hx hb dX10_findMoves_49 (by decide) ?_
            rcases Classical.em (j_g vv7 (j_ln Y (j_rf Y o 37))) with g14 | g14
            case inr => rw [if_neg g14] at hE; exact absurd hE (hG6 _)
            rw [if_pos g14] at hE
            refine jr_zast jc jw k13 rfl (j_g_in g14) dX10_findMoves_50 (fun H locs jw => ?_)
            obtain ⟨mm15, emm15, hE⟩ := j_lv hE
            rw [← emm15] at jw
            try dsimp only at hE
            obtain ⟨vv16, evv16, hE⟩ := j_lv hE
            try dsimp only at hE
            refine lv_iinc (v := vv16) (lv' := [(2, .int vv16), (0, .ref (ad o)), (1, .int p1)]) hx hb dX10_findMoves_51 hl (k := 0) rfl (by rw [evv16]; rfl) (by decide) rfl (fun ls hl => ?_)
            refine lv_goto (tgt := 31) hx hb dX10_findMoves_54 (by decide) ?_
            exact ih vv16 mm15 H locs ls hE jw (lv_sub hl [0, 1, 2] rfl)
      exact LP6 j_fuel (0 : Int32) M H locs ls hE jw (lv_sub hl [0, 1, 2] rfl)
    · rw [if_pos c4] at hE
      refine lv_aload_n hx hb dX10_findMoves_23 rfl (lv_at hl 0 rfl) ?_
      refine lv_iconst (v := 2) hx hb dX10_findMoves_24 (by decide) ?_
      obtain ⟨xx5, exx5, hE⟩ := j_lv hE
      try dsimp only at hE
      refine jc_vi [.int (2 : Int32)] [] jc jw hA ho (by decide) rfl (c_X10_fails hY ho (M := M) exx5.symm) sd_X10_130 rfl hl.1 (j_hR hRf hRl rfl rfl) (Nat.le_of_ble_eq_true rfl) dX10_findMoves_25 (fun H locs jw => ?_)
      exact kr _ _ _ _ _ _ (congrArg Prod.fst (Option.some.inj (j_ret eG0 hE))) (congrArg Prod.snd (Option.some.inj (j_ret eG0 hE))) jw dX10_findMoves_28
  · rw [if_pos c2] at hE
    refine lv_aload_n hx hb dX10_findMoves_10 rfl (lv_at hl 0 rfl) ?_
    refine lv_iconst (v := 1) hx hb dX10_findMoves_11 (by decide) ?_
    obtain ⟨xx3, exx3, hE⟩ := j_lv hE
    try dsimp only at hE
    refine jc_vi [.int (1 : Int32)] [] jc jw hA ho (by decide) rfl (c_X10_fails hY ho (M := M) exx3.symm) sd_X10_130 rfl hl.1 (j_hR hRf hRl rfl rfl) (Nat.le_of_ble_eq_true rfl) dX10_findMoves_12 (fun H locs jw => ?_)
    exact kr _ _ _ _ _ _ (congrArg Prod.fst (Option.some.inj (j_ret eG0 hE))) (congrArg Prod.snd (Option.some.inj (j_ret eG0 hE))) jw dX10_findMoves_15
def s_X10_move (Y : JY) (M : JM) (o : Nat) (p1 : Int32) (p2 : Int32) : Option (Int32 × JM) := if (s_X10_in Y M p1 (0 : Int32) ((M o 33) - (1 : Int32))) = 0 then (lt_ (s_X10_fails Y M o (1 : Int32)) fun xx3 => some (xx3.1, xx3.2)) else (if (s_X10_in Y M p2 (0 : Int32) (2 : Int32)) = 0 then (lt_ (s_X10_fails Y M o (2 : Int32)) fun xx6 => some (xx6.1, xx6.2)) else (if j_g (((3 : Int32) * p1) + p2) (j_ln Y (j_rf Y o 32)) then (lt_ (s_X10_done Y M o (M (j_rf Y o 32) (((3 : Int32) * p1) + p2).toNatClampNeg)) fun xx9 => some (xx9.1, xx9.2)) else none))
set_option maxRecDepth 100000 in
set_option maxHeartbeats 4000000 in
theorem c_X10_move {D : va_G} {Y : JY} {ty : Nat → ClassId} {ad : Nat → Nat} {sz : Nat} {l : Launch} {M : JM} (hY : j_ok Y) {o : Nat} {p1 : Int32} {p2 : Int32} (ho : j_kd Y o = 10) {r : Int32 × JM} (hE : s_X10_move Y M o p1 p2 = some r) : JMi D Y ty ad sz l yX10_move cX10_move 3 (some .int) 1 22 [.ref (ad o), .int p1, .int p2] M r.1 r.2 := by
  refine j_ofI hY (by decide +kernel) (Nat.le_of_ble_eq_true rfl) (fun p e s m below meth c args R Q A hRf hRl hA jc jw kr ls hl => ?_)
  have hx := jc.1
  have hb := jc.2.1
  have hl : lv_has ls 3 [(0, .ref (ad o)), (1, .int p1), (2, .int p2)] := hl
  unfold s_X10_move at hE
  obtain ⟨G0, eG0, hG0, hE⟩ := j_F0o hE
  refine lv_iload_n hx hb dX10_move_0 rfl (lv_at hl 1 rfl) ?_
  refine lv_iconst (v := 0) hx hb dX10_move_1 (by decide) ?_
  refine lv_aload_n hx hb dX10_move_2 rfl (lv_at hl 0 rfl) ?_
  refine jg_10_33 jc jw ho wd_6_92 dX10_move_3 ?_
  refine lv_iconst (v := 1) hx hb dX10_move_6 (by decide) ?_
  refine lv_isub hx hb dX10_move_7 ?_
  refine jc_sz [.int p1, .int (0 : Int32), .int ((M o 33) - (1 : Int32))] [] jc jw hA (c_X10_in hY  (M := M) rfl) sd_X10_119 rfl hl.1 (j_hR hRf hRl rfl rfl) (Nat.le_of_ble_eq_true rfl) dX10_move_8 (fun H locs jw hz => ?_)
  have z_1 := hz
  refine lv_if_ne (tgt := 20) hx hb dX10_move_11 (by decide) (fun c2 => ?_) (fun c2 => ?_)
  · rw [if_neg c2] at hE
    refine lv_iload_n hx hb dX10_move_20 rfl (lv_at hl 2 rfl) ?_
    refine lv_iconst (v := 0) hx hb dX10_move_21 (by decide) ?_
    refine lv_iconst (v := 2) hx hb dX10_move_22 (by decide) ?_
    refine jc_sz [.int p2, .int (0 : Int32), .int (2 : Int32)] [] jc jw hA (c_X10_in hY  (M := M) rfl) sd_X10_119 rfl hl.1 (j_hR hRf hRl rfl rfl) (Nat.le_of_ble_eq_true rfl) dX10_move_23 (fun H locs jw hz => ?_)
    have z_4 := hz
    refine lv_if_eq (tgt := 46) hx hb dX10_move_26 (by decide) (fun c5 => ?_) (fun c5 => ?_)
    · rw [if_pos c5] at hE
      refine lv_aload_n hx hb dX10_move_46 rfl (lv_at hl 0 rfl) ?_
      refine lv_iconst (v := 2) hx hb dX10_move_47 (by decide) ?_
      obtain ⟨xx6, exx6, hE⟩ := j_lv hE
      try dsimp only at hE
      refine jc_vi [.int (2 : Int32)] [] jc jw hA ho (by decide) rfl (c_X10_fails hY ho (M := M) exx6.symm) sd_X10_130 rfl hl.1 (j_hR hRf hRl rfl rfl) (Nat.le_of_ble_eq_true rfl) dX10_move_48 (fun H locs jw => ?_)
      exact kr _ _ _ _ _ _ (congrArg Prod.fst (Option.some.inj (j_ret eG0 hE))) (congrArg Prod.snd (Option.some.inj (j_ret eG0 hE))) jw dX10_move_51
    · rw [if_neg c5] at hE
      refine lv_aload_n hx hb dX10_move_29 rfl (lv_at hl 0 rfl) ?_
      refine lv_aload_n hx hb dX10_move_30 rfl (lv_at hl 0 rfl) ?_
      refine jg_10_32 jc jw ho wd_6_91 dX10_move_31 ?_
      have k7 := j_sub hY ho 32 (f := 100) rfl (by decide) (by decide) (by decide)
      refine lv_iconst (v := 3) hx hb dX10_move_34 (by decide) ?_
      refine lv_iload_n hx hb dX10_move_35 rfl (lv_at hl 1 rfl) ?_
      refine lv_imul hx hb dX10_move_36 ?_
      refine lv_iload_n hx hb dX10_move_37 rfl (lv_at hl 2 rfl) ?_
      refine lv_iadd hx hb dX10_move_38 ?_
      rcases Classical.em (j_g (((3 : Int32) * p1) + p2) (j_ln Y (j_rf Y o 32))) with g8 | g8
      case inr => rw [if_neg g8] at hE; exact absurd hE (hG0 _)
      rw [if_pos g8] at hE
      refine jr_iald jc jw k7 (j_g_in g8) dX10_move_39 ?_
      obtain ⟨xx9, exx9, hE⟩ := j_lv hE
      try dsimp only at hE
      refine jc_vi [.int (M (j_rf Y o 32) (((3 : Int32) * p1) + p2).toNatClampNeg)] [] jc jw hA ho (by decide) rfl (c_X10_done hY ho (M := M) exx9.symm) sd_X10_138 rfl hl.1 (j_hR hRf hRl rfl rfl) (Nat.le_of_ble_eq_true rfl) dX10_move_40 (fun H locs jw => ?_)
      refine lv_goto (tgt := 51) hx hb dX10_move_43 (by decide) ?_
      exact kr _ _ _ _ _ _ (congrArg Prod.fst (Option.some.inj (j_ret eG0 hE))) (congrArg Prod.snd (Option.some.inj (j_ret eG0 hE))) jw dX10_move_51
  · rw [if_pos c2] at hE
    refine lv_aload_n hx hb dX10_move_14 rfl (lv_at hl 0 rfl) ?_
    refine lv_iconst (v := 1) hx hb dX10_move_15 (by decide) ?_
    obtain ⟨xx3, exx3, hE⟩ := j_lv hE
    try dsimp only at hE
    refine jc_vi [.int (1 : Int32)] [] jc jw hA ho (by decide) rfl (c_X10_fails hY ho (M := M) exx3.symm) sd_X10_130 rfl hl.1 (j_hR hRf hRl rfl rfl) (Nat.le_of_ble_eq_true rfl) dX10_move_16 (fun H locs jw => ?_)
    exact kr _ _ _ _ _ _ (congrArg Prod.fst (Option.some.inj (j_ret eG0 hE))) (congrArg Prod.snd (Option.some.inj (j_ret eG0 hE))) jw dX10_move_19
def s_X10_setShrinking (Y : JY) (M : JM) (o : Nat) (p1 : Int32) : Option (Int32 × JM) := lt_ (j_z (M o 4)) fun vv1 => if p1 = 0 ∨ p1 = 1 then (lt_ (j_up M o 4 p1) fun mm3 => lt_ (s_X10_so Y mm3 o vv1) fun xx4 => if xx4.1 = 0 ∨ xx4.1 = 1 then (some (xx4.1, xx4.2)) else none) else none
set_option maxRecDepth 100000 in
set_option maxHeartbeats 4000000 in
theorem c_X10_setShrinking {D : va_G} {Y : JY} {ty : Nat → ClassId} {ad : Nat → Nat} {sz : Nat} {l : Launch} {M : JM} (hY : j_ok Y) {o : Nat} {p1 : Int32} (ho : j_kd Y o = 10) {r : Int32 × JM} (hE : s_X10_setShrinking Y M o p1 = some r) : JMz D Y ty ad sz l yX10_setShrinking cX10_setShrinking 3 1 21 [.ref (ad o), .int p1] M r.1 r.2 := by
  refine j_ofZ hY (by decide +kernel) (Nat.le_of_ble_eq_true rfl) (fun p e s m below meth c args R Q A hRf hRl hA jc jw kr ls hl => ?_)
  have hx := jc.1
  have hb := jc.2.1
  have hl : lv_has ls 3 [(0, .ref (ad o)), (1, .int p1)] := hl
  unfold s_X10_setShrinking at hE
  obtain ⟨G0, eG0, hG0, hE⟩ := j_F0o hE
  refine lv_aload_n hx hb dX10_setShrinking_0 rfl (lv_at hl 0 rfl) ?_
  refine jg_10_4 jc jw ho wd_6_63 dX10_setShrinking_1 ?_
  refine lv_topi (fun vv1 evv1 => ?_)
  replace hE := j_lu hE evv1
  try dsimp only at hE
  have zvv1 : vv1 = 0 ∨ vv1 = 1 := by rw [evv1]; exact (j_z01 _)
  refine lv_istore_n (lv' := [(2, .int vv1), (0, .ref (ad o)), (1, .int p1)]) hx hb dX10_setShrinking_4 rfl hl (by decide) rfl (fun ls hl => ?_)
  refine lv_aload_n hx hb dX10_setShrinking_5 rfl (lv_at hl 1 rfl) ?_
  refine lv_iload_n hx hb dX10_setShrinking_6 rfl (lv_at hl 2 rfl) ?_
  rcases Classical.em (p1 = 0 ∨ p1 = 1) with g2 | g2
  case inr => rw [if_neg g2] at hE; exact absurd hE (hG0 _)
  rw [if_pos g2] at hE
  refine js_10_4 jc jw ho wd_6_63 g2 dX10_setShrinking_7 (fun H locs jw => ?_)
  obtain ⟨mm3, emm3, hE⟩ := j_lv hE
  rw [← emm3] at jw
  try dsimp only at hE
  refine lv_aload_n hx hb dX10_setShrinking_10 rfl (lv_at hl 1 rfl) ?_
  refine lv_iload_n hx hb dX10_setShrinking_11 rfl (lv_at hl 0 rfl) ?_
  obtain ⟨xx4, exx4, hE⟩ := j_lv hE
  try dsimp only at hE
  refine jc_vz [.int vv1] [] jc jw hA ho (by decide) rfl (c_X10_so hY ho zvv1 (M := mm3) exx4.symm) sd_X10_148 rfl hl.1 (j_hR hRf hRl rfl rfl) (Nat.le_of_ble_eq_true rfl) dX10_setShrinking_12 (fun H locs jw hz => ?_)
  rcases Classical.em (xx4.1 = 0 ∨ xx4.1 = 1) with g5 | g5
  case inr => rw [if_neg g5] at hE; exact absurd hE (hG0 _)
  rw [if_pos g5] at hE
  exact kr _ _ _ _ _ _ (congrArg Prod.fst (Option.some.inj (j_ret eG0 hE))) (congrArg Prod.snd (Option.some.inj (j_ret eG0 hE))) g5 jw dX10_setShrinking_15
def lp_X10_alike_1 (Y : JY) (p3 : Int32) (p2 : Int32) (q1 : Nat) (p5 : Int32) (q4 : Nat) (M : JM) (n : Nat) (vv5 : Int32) (vv6 : Int32) : Option (Int32) := match n with
  | 0 => none
  | n + 1 => if (p3 - p2) ≤ vv6 ∨ vv5 = 0 then (if vv5 = 0 ∨ vv5 = 1 then (some vv5) else none) else (if j_g (p2 + vv6) (j_ln Y q1) then (if j_g (p5 + vv6) (j_ln Y q4) then (lt_ (if (M q1 (p2 + vv6).toNatClampNeg) = (M q4 (p5 + vv6).toNatClampNeg) then ((1 : Int32)) else ((0 : Int32))) fun xx16 => lt_ (vv6 + (1 : Int32)) fun vv15 => lp_X10_alike_1 Y p3 p2 q1 p5 q4 M n xx16 vv15) else none) else none)
def s_X10_alike (Y : JY) (M : JM) (q1 : Nat) (p2 : Int32) (p3 : Int32) (q4 : Nat) (p5 : Int32) (p6 : Int32) : Option (Int32) := lt_ (if (p3 - p2) = (p6 - p5) then ((1 : Int32)) else ((0 : Int32))) fun xx19 => (lp_X10_alike_1 Y p3 p2 q1 p5 q4 M j_fuel xx19 (0 : Int32)).bind fun xx18 => some xx18
set_option maxRecDepth 100000 in
set_option maxHeartbeats 4000000 in
theorem c_X10_alike {D : va_G} {Y : JY} {ty : Nat → ClassId} {ad : Nat → Nat} {sz : Nat} {l : Launch} {M : JM} (hY : j_ok Y) {q1 : Nat} {p2 : Int32} {p3 : Int32} {q4 : Nat} {p5 : Int32} {p6 : Int32} (hq1 : j_kd Y q1 = 100) (hq4 : j_kd Y q4 = 100) {r : Int32} (hE : s_X10_alike Y M q1 p2 p3 q4 p5 p6 = some r) : JMz D Y ty ad sz l yX10_alike cX10_alike 8 0 0 [.ref (ad q1), .int p2, .int p3, .ref (ad q4), .int p5, .int p6] M r M := by
  refine j_ofZ hY (by decide +kernel) (Nat.le_of_ble_eq_true rfl) (fun p e s m below meth c args R Q A hRf hRl hA jc jw kr ls hl => ?_)
  have hx := jc.1
  have hb := jc.2.1
  have hl : lv_has ls 8 [(0, .ref (ad q1)), (1, .int p2), (2, .int p3), (3, .ref (ad q4)), (4, .int p5), (5, .int p6)] := hl
  unfold s_X10_alike at hE
  obtain ⟨G0, eG0, hG0, hE⟩ := j_F0o hE
  refine lv_iload_n hx hb dX10_alike_0 rfl (lv_at hl 2 rfl) ?_
  refine lv_iload_n hx hb dX10_alike_1 rfl (lv_at hl 1 rfl) ?_
  refine lv_isub hx hb dX10_alike_2 ?_
  refine lv_iload hx hb dX10_alike_3 (lv_at hl 5 rfl) ?_
  refine lv_iload hx hb dX10_alike_5 (lv_at hl 4 rfl) ?_
  refine lv_isub hx hb dX10_alike_7 ?_
  obtain ⟨G2, eG2, hE⟩ := j_ctxL hE
  have J2 : ∀ (vv3 : Int32)  (H : Heap) (locs : List Loc) (ls : Array Slot), G2 (vv3) = some r → JW D Y ty ad A s.heap M H locs → lv_has ls 8 [(0, .ref (ad q1)), (1, .int p2), (2, .int p3), (3, .ref (ad q4)), (4, .int p5)] → W p l e R s m args below meth c H locs 0 0 Q (F0 m 16 ls [.int vv3]) := by
    intro vv3  H locs ls hE jw hl
    replace hE := j_popL eG2 hE
    try dsimp only at hE
    refine lv_istore (lv' := [(6, .int vv3), (0, .ref (ad q1)), (1, .int p2), (2, .int p3), (3, .ref (ad q4)), (4, .int p5)]) hx hb dX10_alike_16 hl (by decide) rfl (fun ls hl => ?_)
    refine lv_iconst (v := 0) hx hb dX10_alike_18 (by decide) ?_
    refine lv_istore (lv' := [(7, .int (0 : Int32)), (6, .int vv3), (0, .ref (ad q1)), (1, .int p2), (2, .int p3), (3, .ref (ad q4)), (4, .int p5)]) hx hb dX10_alike_19 hl (by decide) rfl (fun ls hl => ?_)
    obtain ⟨G4, eG4, hG4, hE⟩ := j_ctxB hG0 hE
    have LP4 : ∀ (n : Nat) (vv5 : Int32) (vv6 : Int32) (H : Heap) (locs : List Loc) (ls : Array Slot), G4 (lp_X10_alike_1 Y p3 p2 q1 p5 q4 M n vv5 vv6) = some r → JW D Y ty ad A s.heap M H locs → lv_has ls 8 [(7, .int vv6), (6, .int vv5), (0, .ref (ad q1)), (1, .int p2), (2, .int p3), (3, .ref (ad q4)), (4, .int p5)] → W p l e R s m args below meth c H locs 0 0 Q (F0 m 21 ls []) := by
      intro n
      induction n with
      | zero => intro vv5 vv6 H locs ls hE jw hl; exact absurd hE (hG4 _)
      | succ n ih =>
        intro vv5 vv6 H locs ls hE jw hl
        rw [lp_X10_alike_1] at hE
        refine lv_iload hx hb dX10_alike_21 (lv_at hl 0 rfl) ?_
        refine lv_iload_n hx hb dX10_alike_23 rfl (lv_at hl 4 rfl) ?_
        refine lv_iload_n hx hb dX10_alike_24 rfl (lv_at hl 3 rfl) ?_
        refine lv_isub hx hb dX10_alike_25 ?_
        have B17 : ∀ (H : Heap) (locs : List Loc), JW D Y ty ad A s.heap M H locs → ((p3 - p2) ≤ vv6 ∨ vv5 = 0) → W p l e R s m args below meth c H locs 0 0 Q (F0 m 63 ls []) := by
          intro H locs jw hcc
          rw [if_pos hcc] at hE
          refine lv_iload hx hb dX10_alike_63 (lv_at hl 1 rfl) ?_
          rcases Classical.em (vv5 = 0 ∨ vv5 = 1) with g9 | g9
          case inr => rw [if_neg g9] at hE; exact absurd hE (hG4 _)
          rw [if_pos g9] at hE
          replace hE := j_popB eG4 hE
          try dsimp only at hE
          exact kr _ _ _ _ _ _ (Option.some.inj (j_ret eG0 hE)) rfl g9 jw dX10_alike_65
        refine lv_icmp_ge (tgt := 63) hx hb dX10_alike_26 (by decide) (fun c7 => B17 _ _ jw (Or.inl c7)) (fun c7 => ?_)
        refine lv_iload hx hb dX10_alike_29 (lv_at hl 1 rfl) ?_
        refine lv_if_eq (tgt := 63) hx hb dX10_alike_31 (by decide) (fun c8 => B17 _ _ jw (Or.inr c8)) (fun c8 => ?_)
        rw [if_neg (fun hq => hq.elim (fun hq => (j_abs c7 hq)) (fun hq => (j_abs c8 hq)))] at hE
        refine lv_aload_n hx hb dX10_alike_34 rfl (lv_at hl 2 rfl) ?_
        refine lv_iload_n hx hb dX10_alike_35 rfl (lv_at hl 3 rfl) ?_
        refine lv_iload hx hb dX10_alike_36 (lv_at hl 0 rfl) ?_
        refine lv_iadd hx hb dX10_alike_38 ?_
        rcases Classical.em (j_g (p2 + vv6) (j_ln Y q1)) with g10 | g10
        case inr => rw [if_neg g10] at hE; exact absurd hE (hG4 _)
        rw [if_pos g10] at hE
        refine jr_iald jc jw hq1 (j_g_in g10) dX10_alike_39 ?_
        refine lv_aload_n hx hb dX10_alike_40 rfl (lv_at hl 5 rfl) ?_
        refine lv_iload hx hb dX10_alike_41 (lv_at hl 6 rfl) ?_
        refine lv_iload hx hb dX10_alike_43 (lv_at hl 0 rfl) ?_
        refine lv_iadd hx hb dX10_alike_45 ?_
        rcases Classical.em (j_g (p5 + vv6) (j_ln Y q4)) with g11 | g11
        case inr => rw [if_neg g11] at hE; exact absurd hE (hG4 _)
        rw [if_pos g11] at hE
        refine jr_iald jc jw hq4 (j_g_in g11) dX10_alike_46 ?_
        obtain ⟨G13, eG13, hE⟩ := j_ctxL hE
        have J13 : ∀ (vv14 : Int32)  (H : Heap) (locs : List Loc) (ls : Array Slot), G13 (vv14) = some r → JW D Y ty ad A s.heap M H locs → lv_has ls 8 [(7, .int vv6), (0, .ref (ad q1)), (1, .int p2), (2, .int p3), (3, .ref (ad q4)), (4, .int p5)] → W p l e R s m args below meth c H locs 0 0 Q (F0 m 55 ls [.int vv14]) := by
          intro vv14  H locs ls hE jw hl
          replace hE := j_popL eG13 hE
          try dsimp only at hE
          refine lv_istore (lv' := [(6, .int vv14), (7, .int vv6), (0, .ref (ad q1)), (1, .int p2), (2, .int p3), (3, .ref (ad q4)), (4, .int p5)]) hx hb dX10_alike_55 hl (by decide) rfl (fun ls hl => ?_)
          obtain ⟨vv15, evv15, hE⟩ := j_lv hE
          try dsimp only at hE
          refine lv_iinc (v := vv15) (lv' := [(7, .int vv15), (6, .int vv14), (0, .ref (ad q1)), (1, .int p2), (2, .int p3), (3, .ref (ad q4)), (4, .int p5)]) hx hb dX10_alike_57 hl (k := 1) rfl (by rw [evv15]; rfl) (by decide) rfl (fun ls hl => ?_)
          refine lv_goto (tgt := 21) hx hb dX10_alike_60 (by decide) ?_
          exact ih vv14 vv15 H locs ls hE jw (lv_sub hl [0, 1, 2, 3, 4, 5, 6] rfl)
        refine lv_icmp_ne (tgt := 54) hx hb dX10_alike_47 (by decide) (fun c12 => ?_) (fun c12 => ?_)
        · rw [if_neg c12] at hE
          refine lv_iconst (v := 0) hx hb dX10_alike_54 (by decide) ?_
          exact J13 (0 : Int32)  H locs ls hE jw (lv_sub hl [0, 2, 3, 4, 5, 6] rfl)
        · rw [if_pos c12] at hE
          refine lv_iconst (v := 1) hx hb dX10_alike_50 (by decide) ?_
          refine lv_goto (tgt := 55) hx hb dX10_alike_51 (by decide) ?_
          exact J13 (1 : Int32)  H locs ls hE jw (lv_sub hl [0, 2, 3, 4, 5, 6] rfl)
    exact LP4 j_fuel vv3 (0 : Int32) H locs ls hE jw (lv_sub hl [0, 1, 2, 3, 4, 5, 6] rfl)
  refine lv_icmp_ne (tgt := 15) hx hb dX10_alike_8 (by decide) (fun c1 => ?_) (fun c1 => ?_)
  · rw [if_neg c1] at hE
    refine lv_iconst (v := 0) hx hb dX10_alike_15 (by decide) ?_
    exact J2 (0 : Int32)  s.heap [] ls hE jw (lv_sub hl [0, 1, 2, 3, 4] rfl)
  · rw [if_pos c1] at hE
    refine lv_iconst (v := 1) hx hb dX10_alike_11 (by decide) ?_
    refine lv_goto (tgt := 16) hx hb dX10_alike_12 (by decide) ?_
    exact J2 (1 : Int32)  s.heap [] ls hE jw (lv_sub hl [0, 1, 2, 3, 4] rfl)
def s_X10_chunkComes (Y : JY) (M : JM) (o : Nat) (p1 : Int32) (p2 : Int32) (p3 : Int32) (p4 : Int32) (p5 : Int32) (p6 : Int32) (p7 : Int32) : Option (JM) := lt_ ((7 : Int32) * (M o 48)) fun vv1 => if j_g vv1 (j_ln Y (j_rf Y o 47)) then (lt_ (j_up M (j_rf Y o 47) vv1.toNatClampNeg p1) fun mm4 => if j_g (vv1 + (1 : Int32)) (j_ln Y (j_rf Y o 47)) then (lt_ (j_up mm4 (j_rf Y o 47) (vv1 + (1 : Int32)).toNatClampNeg p2) fun mm6 => if j_g (vv1 + (2 : Int32)) (j_ln Y (j_rf Y o 47)) then (lt_ (j_up mm6 (j_rf Y o 47) (vv1 + (2 : Int32)).toNatClampNeg p3) fun mm8 => if j_g (vv1 + (3 : Int32)) (j_ln Y (j_rf Y o 47)) then (lt_ (j_up mm8 (j_rf Y o 47) (vv1 + (3 : Int32)).toNatClampNeg p4) fun mm10 => if j_g (vv1 + (4 : Int32)) (j_ln Y (j_rf Y o 47)) then (lt_ (j_up mm10 (j_rf Y o 47) (vv1 + (4 : Int32)).toNatClampNeg p5) fun mm12 => if j_g (vv1 + (5 : Int32)) (j_ln Y (j_rf Y o 47)) then (lt_ (j_up mm12 (j_rf Y o 47) (vv1 + (5 : Int32)).toNatClampNeg p6) fun mm14 => if j_g (vv1 + (6 : Int32)) (j_ln Y (j_rf Y o 47)) then (lt_ (j_up mm14 (j_rf Y o 47) (vv1 + (6 : Int32)).toNatClampNeg p7) fun mm16 => lt_ (j_up mm16 o 48 ((mm16 o 48) + (1 : Int32))) fun mm17 => if p1 = (4 : Int32) then (if j_g (mm17 o 50) (j_ln Y (j_rf Y o 49)) then (lt_ (j_up mm17 (j_rf Y o 49) (mm17 o 50).toNatClampNeg (-1 : Int32)) fun mm21 => lt_ (j_up mm21 o 50 ((mm21 o 50) + (1 : Int32))) fun mm22 => some mm22) else none) else (some mm17)) else none) else none) else none) else none) else none) else none) else none
set_option maxRecDepth 100000 in
set_option maxHeartbeats 4000000 in
theorem c_X10_chunkComes {D : va_G} {Y : JY} {ty : Nat → ClassId} {ad : Nat → Nat} {sz : Nat} {l : Launch} {M : JM} (hY : j_ok Y) {o : Nat} {p1 : Int32} {p2 : Int32} {p3 : Int32} {p4 : Int32} {p5 : Int32} {p6 : Int32} {p7 : Int32} (ho : j_kd Y o = 10) {r : JM} (hE : s_X10_chunkComes Y M o p1 p2 p3 p4 p5 p6 p7 = some r) : JMv D Y ty ad sz l yX10_chunkComes cX10_chunkComes 9 0 0 [.ref (ad o), .int p1, .int p2, .int p3, .int p4, .int p5, .int p6, .int p7] M r := by
  refine j_ofV hY (by decide +kernel) (Nat.le_of_ble_eq_true rfl) (fun p e s m below meth c args R Q A hRf hRl hA jc jw kr ls hl => ?_)
  have hx := jc.1
  have hb := jc.2.1
  have hl : lv_has ls 9 [(0, .ref (ad o)), (1, .int p1), (2, .int p2), (3, .int p3), (4, .int p4), (5, .int p5), (6, .int p6), (7, .int p7)] := hl
  unfold s_X10_chunkComes at hE
  obtain ⟨G0, eG0, hG0, hE⟩ := j_F0o hE
  refine lv_bipush (v := 7) hx hb dX10_chunkComes_0 (by decide) ?_
  refine lv_aload_n hx hb dX10_chunkComes_2 rfl (lv_at hl 0 rfl) ?_
  refine jg_10_48 jc jw ho wd_6_107 dX10_chunkComes_3 ?_
  refine lv_imul hx hb dX10_chunkComes_6 ?_
  refine lv_topi (fun vv1 evv1 => ?_)
  replace hE := j_lu hE evv1
  try dsimp only at hE
  refine lv_istore (lv' := [(8, .int vv1), (0, .ref (ad o)), (1, .int p1), (2, .int p2), (3, .int p3), (4, .int p4), (5, .int p5), (6, .int p6), (7, .int p7)]) hx hb dX10_chunkComes_7 hl (by decide) rfl (fun ls hl => ?_)
  refine lv_aload_n hx hb dX10_chunkComes_9 rfl (lv_at hl 1 rfl) ?_
  refine jg_10_47 jc jw ho wd_6_106 dX10_chunkComes_10 ?_
  have k2 := j_sub hY ho 47 (f := 100) rfl (by decide) (by decide) (by decide)
  refine lv_iload hx hb dX10_chunkComes_13 (lv_at hl 0 rfl) ?_
  refine lv_iload_n hx hb dX10_chunkComes_15 rfl (lv_at hl 2 rfl) ?_
  rcases Classical.em (j_g vv1 (j_ln Y (j_rf Y o 47))) with g3 | g3
  case inr => rw [if_neg g3] at hE; exact absurd hE (hG0 _)
  rw [if_pos g3] at hE
  refine jr_iast jc jw k2 (j_g_in g3) dX10_chunkComes_16 (fun H locs jw => ?_)
  obtain ⟨mm4, emm4, hE⟩ := j_lv hE
  rw [← emm4] at jw
  try dsimp only at hE
  refine lv_aload_n hx hb dX10_chunkComes_17 rfl (lv_at hl 1 rfl) ?_
  refine jg_10_47 jc jw ho wd_6_106 dX10_chunkComes_18 ?_
  refine lv_iload hx hb dX10_chunkComes_21 (lv_at hl 0 rfl) ?_
  refine lv_iconst (v := 1) hx hb dX10_chunkComes_23 (by decide) ?_
  refine lv_iadd hx hb dX10_chunkComes_24 ?_
  refine lv_iload_n hx hb dX10_chunkComes_25 rfl (lv_at hl 3 rfl) ?_
  rcases Classical.em (j_g (vv1 + (1 : Int32)) (j_ln Y (j_rf Y o 47))) with g5 | g5
  case inr => rw [if_neg g5] at hE; exact absurd hE (hG0 _)
  rw [if_pos g5] at hE
  refine jr_iast jc jw k2 (j_g_in g5) dX10_chunkComes_26 (fun H locs jw => ?_)
  obtain ⟨mm6, emm6, hE⟩ := j_lv hE
  rw [← emm6] at jw
  try dsimp only at hE
  refine lv_aload_n hx hb dX10_chunkComes_27 rfl (lv_at hl 1 rfl) ?_
  refine jg_10_47 jc jw ho wd_6_106 dX10_chunkComes_28 ?_
  refine lv_iload hx hb dX10_chunkComes_31 (lv_at hl 0 rfl) ?_
  refine lv_iconst (v := 2) hx hb dX10_chunkComes_33 (by decide) ?_
  refine lv_iadd hx hb dX10_chunkComes_34 ?_
  refine lv_iload_n hx hb dX10_chunkComes_35 rfl (lv_at hl 4 rfl) ?_
  rcases Classical.em (j_g (vv1 + (2 : Int32)) (j_ln Y (j_rf Y o 47))) with g7 | g7
  case inr => rw [if_neg g7] at hE; exact absurd hE (hG0 _)
  rw [if_pos g7] at hE
  refine jr_iast jc jw k2 (j_g_in g7) dX10_chunkComes_36 (fun H locs jw => ?_)
  obtain ⟨mm8, emm8, hE⟩ := j_lv hE
  rw [← emm8] at jw
  try dsimp only at hE
  refine lv_aload_n hx hb dX10_chunkComes_37 rfl (lv_at hl 1 rfl) ?_
  refine jg_10_47 jc jw ho wd_6_106 dX10_chunkComes_38 ?_
  refine lv_iload hx hb dX10_chunkComes_41 (lv_at hl 0 rfl) ?_
  refine lv_iconst (v := 3) hx hb dX10_chunkComes_43 (by decide) ?_
  refine lv_iadd hx hb dX10_chunkComes_44 ?_
  refine lv_iload hx hb dX10_chunkComes_45 (lv_at hl 5 rfl) ?_
  rcases Classical.em (j_g (vv1 + (3 : Int32)) (j_ln Y (j_rf Y o 47))) with g9 | g9
  case inr => rw [if_neg g9] at hE; exact absurd hE (hG0 _)
  rw [if_pos g9] at hE
  refine jr_iast jc jw k2 (j_g_in g9) dX10_chunkComes_47 (fun H locs jw => ?_)
  obtain ⟨mm10, emm10, hE⟩ := j_lv hE
  rw [← emm10] at jw
  try dsimp only at hE
  refine lv_aload_n hx hb dX10_chunkComes_48 rfl (lv_at hl 1 rfl) ?_
  refine jg_10_47 jc jw ho wd_6_106 dX10_chunkComes_49 ?_
  refine lv_iload hx hb dX10_chunkComes_52 (lv_at hl 0 rfl) ?_
  refine lv_iconst (v := 4) hx hb dX10_chunkComes_54 (by decide) ?_
  refine lv_iadd hx hb dX10_chunkComes_55 ?_
  refine lv_iload hx hb dX10_chunkComes_56 (lv_at hl 6 rfl) ?_
  rcases Classical.em (j_g (vv1 + (4 : Int32)) (j_ln Y (j_rf Y o 47))) with g11 | g11
  case inr => rw [if_neg g11] at hE; exact absurd hE (hG0 _)
  rw [if_pos g11] at hE
  refine jr_iast jc jw k2 (j_g_in g11) dX10_chunkComes_58 (fun H locs jw => ?_)
  obtain ⟨mm12, emm12, hE⟩ := j_lv hE
  rw [← emm12] at jw
  try dsimp only at hE
  refine lv_aload_n hx hb dX10_chunkComes_59 rfl (lv_at hl 1 rfl) ?_
  refine jg_10_47 jc jw ho wd_6_106 dX10_chunkComes_60 ?_
  refine lv_iload hx hb dX10_chunkComes_63 (lv_at hl 0 rfl) ?_
  refine lv_iconst (v := 5) hx hb dX10_chunkComes_65 (by decide) ?_
  refine lv_iadd hx hb dX10_chunkComes_66 ?_
  refine lv_iload hx hb dX10_chunkComes_67 (lv_at hl 7 rfl) ?_
  rcases Classical.em (j_g (vv1 + (5 : Int32)) (j_ln Y (j_rf Y o 47))) with g13 | g13
  case inr => rw [if_neg g13] at hE; exact absurd hE (hG0 _)
  rw [if_pos g13] at hE
  refine jr_iast jc jw k2 (j_g_in g13) dX10_chunkComes_69 (fun H locs jw => ?_)
  obtain ⟨mm14, emm14, hE⟩ := j_lv hE
  rw [← emm14] at jw
  try dsimp only at hE
  refine lv_aload_n hx hb dX10_chunkComes_70 rfl (lv_at hl 1 rfl) ?_
  refine jg_10_47 jc jw ho wd_6_106 dX10_chunkComes_71 ?_
  refine lv_iload hx hb dX10_chunkComes_74 (lv_at hl 0 rfl) ?_
  refine lv_bipush (v := 6) hx hb dX10_chunkComes_76 (by decide) ?_
  refine lv_iadd hx hb dX10_chunkComes_78 ?_
  refine lv_iload hx hb dX10_chunkComes_79 (lv_at hl 8 rfl) ?_
  rcases Classical.em (j_g (vv1 + (6 : Int32)) (j_ln Y (j_rf Y o 47))) with g15 | g15
  case inr => rw [if_neg g15] at hE; exact absurd hE (hG0 _)
  rw [if_pos g15] at hE
  refine jr_iast jc jw k2 (j_g_in g15) dX10_chunkComes_81 (fun H locs jw => ?_)
  obtain ⟨mm16, emm16, hE⟩ := j_lv hE
  rw [← emm16] at jw
  try dsimp only at hE
  refine lv_aload_n hx hb dX10_chunkComes_82 rfl (lv_at hl 1 rfl) ?_
  refine lv_dup hx hb dX10_chunkComes_83 rfl ?_
  refine jg_10_48 jc jw ho wd_6_107 dX10_chunkComes_84 ?_
  refine lv_iconst (v := 1) hx hb dX10_chunkComes_87 (by decide) ?_
  refine lv_iadd hx hb dX10_chunkComes_88 ?_
  refine js_10_48 jc jw ho wd_6_107 dX10_chunkComes_89 (fun H locs jw => ?_)
  obtain ⟨mm17, emm17, hE⟩ := j_lv hE
  rw [← emm17] at jw
  try dsimp only at hE
  refine lv_iload_n hx hb dX10_chunkComes_92 rfl (lv_at hl 2 rfl) ?_
  refine lv_iconst (v := 4) hx hb dX10_chunkComes_93 (by decide) ?_
  refine lv_icmp_ne (tgt := 117) hx hb dX10_chunkComes_94 (by decide) (fun c18 => ?_) (fun c18 => ?_)
  · rw [if_neg c18] at hE
    exact kr _ _ _ _ _ (Option.some.inj (j_ret eG0 hE)) jw dX10_chunkComes_117
  · rw [if_pos c18] at hE
    refine lv_aload_n hx hb dX10_chunkComes_97 rfl (lv_at hl 1 rfl) ?_
    refine jg_10_49 jc jw ho wd_6_108 dX10_chunkComes_98 ?_
    have k19 := j_sub hY ho 49 (f := 100) rfl (by decide) (by decide) (by decide)
    refine lv_aload_n hx hb dX10_chunkComes_101 rfl (lv_at hl 1 rfl) ?_
    refine jg_10_50 jc jw ho wd_6_109 dX10_chunkComes_102 ?_
    refine lv_iconst (v := -1) hx hb dX10_chunkComes_105 (by decide) ?_
    rcases Classical.em (j_g (mm17 o 50) (j_ln Y (j_rf Y o 49))) with g20 | g20
    case inr => rw [if_neg g20] at hE; exact absurd hE (hG0 _)
    rw [if_pos g20] at hE
    refine jr_iast jc jw k19 (j_g_in g20) dX10_chunkComes_106 (fun H locs jw => ?_)
    obtain ⟨mm21, emm21, hE⟩ := j_lv hE
    rw [← emm21] at jw
    try dsimp only at hE
    refine lv_aload_n hx hb dX10_chunkComes_107 rfl (lv_at hl 1 rfl) ?_
    refine lv_dup hx hb dX10_chunkComes_108 rfl ?_
    refine jg_10_50 jc jw ho wd_6_109 dX10_chunkComes_109 ?_
    refine lv_iconst (v := 1) hx hb dX10_chunkComes_112 (by decide) ?_
    refine lv_iadd hx hb dX10_chunkComes_113 ?_
    refine js_10_50 jc jw ho wd_6_109 dX10_chunkComes_114 (fun H locs jw => ?_)
    obtain ⟨mm22, emm22, hE⟩ := j_lv hE
    rw [← emm22] at jw
    try dsimp only at hE
    exact kr _ _ _ _ _ (Option.some.inj (j_ret eG0 hE)) jw dX10_chunkComes_117
def lp_X10_conflictComes_2 (Y : JY) (M : JM) (o : Nat) (p4 : Int32) (p3 : Int32) (vv13 : Int32) (p6 : Int32) (p5 : Int32) (n : Nat) (vv15 : Int32) : Option (Int32) := match n with
  | 0 => none
  | n + 1 => if (j_z (M o 4)) = 0 ∨ (p4 - vv15) ≤ (p3 + vv13) ∨ (p6 - vv15) ≤ (p5 + vv13) then (some vv15) else (if j_g ((p4 - vv15) - (1 : Int32)) (j_ln Y (j_rf Y o 41)) then (if j_g ((p6 - vv15) - (1 : Int32)) (j_ln Y (j_rf Y o 43)) then (if (M (j_rf Y o 41) ((p4 - vv15) - (1 : Int32)).toNatClampNeg) = (M (j_rf Y o 43) ((p6 - vv15) - (1 : Int32)).toNatClampNeg) then (lt_ (vv15 + (1 : Int32)) fun vv24 => lp_X10_conflictComes_2 Y M o p4 p3 vv13 p6 p5 n vv24) else (some vv15)) else none) else none)
def lp_X10_conflictComes_1 (Y : JY) (M : JM) (o : Nat) (p4 : Int32) (p3 : Int32) (p6 : Int32) (p5 : Int32) (n : Nat) (vv2 : Int32) : Option (Int32) := match n with
  | 0 => none
  | n + 1 => if (j_z (M o 4)) = 0 ∨ p4 ≤ (p3 + vv2) ∨ p6 ≤ (p5 + vv2) then (some vv2) else (if j_g (p3 + vv2) (j_ln Y (j_rf Y o 41)) then (if j_g (p5 + vv2) (j_ln Y (j_rf Y o 43)) then (if (M (j_rf Y o 41) (p3 + vv2).toNatClampNeg) = (M (j_rf Y o 43) (p5 + vv2).toNatClampNeg) then (lt_ (vv2 + (1 : Int32)) fun vv11 => lp_X10_conflictComes_1 Y M o p4 p3 p6 p5 n vv11) else (some vv2)) else none) else none)
def s_X10_conflictComes (Y : JY) (M : JM) (o : Nat) (p1 : Int32) (p2 : Int32) (p3 : Int32) (p4 : Int32) (p5 : Int32) (p6 : Int32) : Option (JM) := (lp_X10_conflictComes_1 Y M o p4 p3 p6 p5 j_fuel (0 : Int32)).bind fun xx36 => (lp_X10_conflictComes_2 Y M o p4 p3 xx36 p6 p5 j_fuel (0 : Int32)).bind fun xx35 => (if xx36 ≤ 0 then (some M) else ((s_X10_chunkComes Y M o (3 : Int32) p1 p1 p3 (p3 + xx36) p5 (p5 + xx36)).bind fun xx29 => some xx29)).bind fun xx34 => (s_X10_chunkComes Y xx34 o (4 : Int32) p1 p2 (p3 + xx36) (p4 - xx35) (p5 + xx36) (p6 - xx35)).bind fun xx31 => if xx35 ≤ 0 then (some xx31) else ((s_X10_chunkComes Y xx31 o (3 : Int32) p2 p2 (p4 - xx35) p4 (p6 - xx35) p6).bind fun xx33 => some xx33)
set_option maxRecDepth 100000 in
set_option maxHeartbeats 4000000 in
theorem c_X10_conflictComes {D : va_G} {Y : JY} {ty : Nat → ClassId} {ad : Nat → Nat} {sz : Nat} {l : Launch} {M : JM} (hY : j_ok Y) {o : Nat} {p1 : Int32} {p2 : Int32} {p3 : Int32} {p4 : Int32} {p5 : Int32} {p6 : Int32} (ho : j_kd Y o = 10) {r : JM} (hE : s_X10_conflictComes Y M o p1 p2 p3 p4 p5 p6 = some r) : JMv D Y ty ad sz l yX10_conflictComes cX10_conflictComes 9 1 28 [.ref (ad o), .int p1, .int p2, .int p3, .int p4, .int p5, .int p6] M r := by
  refine j_ofV hY (by decide +kernel) (Nat.le_of_ble_eq_true rfl) (fun p e s m below meth c args R Q A hRf hRl hA jc jw kr ls hl => ?_)
  have hx := jc.1
  have hb := jc.2.1
  have hl : lv_has ls 9 [(0, .ref (ad o)), (1, .int p1), (2, .int p2), (3, .int p3), (4, .int p4), (5, .int p5), (6, .int p6)] := hl
  unfold s_X10_conflictComes at hE
  obtain ⟨G0, eG0, hG0, hE⟩ := j_F0o hE
  refine lv_iconst (v := 0) hx hb dX10_conflictComes_0 (by decide) ?_
  refine lv_istore (lv' := [(7, .int (0 : Int32)), (0, .ref (ad o)), (1, .int p1), (2, .int p2), (3, .int p3), (4, .int p4), (5, .int p5), (6, .int p6)]) hx hb dX10_conflictComes_1 hl (by decide) rfl (fun ls hl => ?_)
  refine lv_iconst (v := 0) hx hb dX10_conflictComes_3 (by decide) ?_
  refine lv_istore (lv' := [(8, .int (0 : Int32)), (7, .int (0 : Int32)), (0, .ref (ad o)), (1, .int p1), (2, .int p2), (3, .int p3), (4, .int p4), (5, .int p5), (6, .int p6)]) hx hb dX10_conflictComes_4 hl (by decide) rfl (fun ls hl => ?_)
  obtain ⟨G1, eG1, hG1, hE⟩ := j_ctxB hG0 hE
  have E1_60 : ∀ (vv13 : Int32)  (H : Heap) (locs : List Loc) (ls : Array Slot), G1 (some vv13) = some r → JW D Y ty ad A s.heap M H locs → lv_has ls 9 [(8, .int (0 : Int32)), (7, .int vv13), (0, .ref (ad o)), (1, .int p1), (2, .int p2), (3, .int p3), (4, .int p4), (5, .int p5), (6, .int p6)] → W p l e R s m args below meth c H locs 0 0 Q (F0 m 60 ls []) := by
    intro vv13  H locs ls hE jw hl
    replace hE := j_popB eG1 hE
    try dsimp only at hE
    obtain ⟨G14, eG14, hG14, hE⟩ := j_ctxB hG0 hE
    have E14_125 : ∀ (vv26 : Int32)  (H : Heap) (locs : List Loc) (ls : Array Slot), G14 (some vv26) = some r → JW D Y ty ad A s.heap M H locs → lv_has ls 9 [(8, .int vv26), (7, .int vv13), (0, .ref (ad o)), (1, .int p1), (2, .int p2), (3, .int p3), (4, .int p4), (5, .int p5), (6, .int p6)] → W p l e R s m args below meth c H locs 0 0 Q (F0 m 125 ls []) := by
      intro vv26  H locs ls hE jw hl
      replace hE := j_popB eG14 hE
      try dsimp only at hE
      refine lv_iload hx hb dX10_conflictComes_125 (lv_at hl 1 rfl) ?_
      obtain ⟨G28, eG28, hG28, hE⟩ := j_ctxB hG0 hE
      have J28 : ∀ (mm30 : JM)  (H : Heap) (locs : List Loc) (ls : Array Slot), G28 (some mm30) = some r → JW D Y ty ad A s.heap mm30 H locs → lv_has ls 9 [(8, .int vv26), (7, .int vv13), (0, .ref (ad o)), (1, .int p1), (2, .int p2), (3, .int p3), (4, .int p4), (5, .int p5), (6, .int p6)] → W p l e R s m args below meth c H locs 0 0 Q (F0 m 149 ls []) := by
        intro mm30  H locs ls hE jw hl
        replace hE := j_popB eG28 hE
        try dsimp only at hE
        refine lv_aload_n hx hb dX10_conflictComes_149 rfl (lv_at hl 2 rfl) ?_
        refine lv_iconst (v := 4) hx hb dX10_conflictComes_150 (by decide) ?_
        refine lv_iload_n hx hb dX10_conflictComes_151 rfl (lv_at hl 3 rfl) ?_
        refine lv_iload_n hx hb dX10_conflictComes_152 rfl (lv_at hl 4 rfl) ?_
        refine lv_iload_n hx hb dX10_conflictComes_153 rfl (lv_at hl 5 rfl) ?_
        refine lv_iload hx hb dX10_conflictComes_154 (lv_at hl 1 rfl) ?_
        refine lv_iadd hx hb dX10_conflictComes_156 ?_
        refine lv_iload hx hb dX10_conflictComes_157 (lv_at hl 6 rfl) ?_
        refine lv_iload hx hb dX10_conflictComes_159 (lv_at hl 0 rfl) ?_
        refine lv_isub hx hb dX10_conflictComes_161 ?_
        refine lv_iload hx hb dX10_conflictComes_162 (lv_at hl 7 rfl) ?_
        refine lv_iload hx hb dX10_conflictComes_164 (lv_at hl 1 rfl) ?_
        refine lv_iadd hx hb dX10_conflictComes_166 ?_
        refine lv_iload hx hb dX10_conflictComes_167 (lv_at hl 8 rfl) ?_
        refine lv_iload hx hb dX10_conflictComes_169 (lv_at hl 0 rfl) ?_
        refine lv_isub hx hb dX10_conflictComes_171 ?_
        obtain ⟨xx31, exx31, hE⟩ := j_bd hG0 hE
        try dsimp only at hE
        refine jc_vv [.int (4 : Int32), .int p1, .int p2, .int (p3 + vv13), .int (p4 - vv26), .int (p5 + vv13), .int (p6 - vv26)] [] jc jw hA ho (by decide) rfl (c_X10_chunkComes hY ho (M := mm30) exx31) sd_X10_252 rfl hl.1 (j_hR hRf hRl rfl rfl) (Nat.le_of_ble_eq_true rfl) dX10_conflictComes_172 (fun H locs jw => ?_)
        refine lv_iload hx hb dX10_conflictComes_175 (lv_at hl 0 rfl) ?_
        refine lv_if_le (tgt := 201) hx hb dX10_conflictComes_177 (by decide) (fun c32 => ?_) (fun c32 => ?_)
        · rw [if_pos c32] at hE
          exact kr _ _ _ _ _ (Option.some.inj (j_ret eG0 hE)) jw dX10_conflictComes_201
        · rw [if_neg c32] at hE
          refine lv_aload_n hx hb dX10_conflictComes_180 rfl (lv_at hl 2 rfl) ?_
          refine lv_iconst (v := 3) hx hb dX10_conflictComes_181 (by decide) ?_
          refine lv_iload_n hx hb dX10_conflictComes_182 rfl (lv_at hl 4 rfl) ?_
          refine lv_iload_n hx hb dX10_conflictComes_183 rfl (lv_at hl 4 rfl) ?_
          refine lv_iload hx hb dX10_conflictComes_184 (lv_at hl 6 rfl) ?_
          refine lv_iload hx hb dX10_conflictComes_186 (lv_at hl 0 rfl) ?_
          refine lv_isub hx hb dX10_conflictComes_188 ?_
          refine lv_iload hx hb dX10_conflictComes_189 (lv_at hl 6 rfl) ?_
          refine lv_iload hx hb dX10_conflictComes_191 (lv_at hl 8 rfl) ?_
          refine lv_iload hx hb dX10_conflictComes_193 (lv_at hl 0 rfl) ?_
          refine lv_isub hx hb dX10_conflictComes_195 ?_
          refine lv_iload hx hb dX10_conflictComes_196 (lv_at hl 8 rfl) ?_
          obtain ⟨xx33, exx33, hE⟩ := j_bd hG0 hE
          try dsimp only at hE
          refine jc_vv [.int (3 : Int32), .int p2, .int p2, .int (p4 - vv26), .int p4, .int (p6 - vv26), .int p6] [] jc jw hA ho (by decide) rfl (c_X10_chunkComes hY ho (M := xx31) exx33) sd_X10_252 rfl hl.1 (j_hR hRf hRl rfl rfl) (Nat.le_of_ble_eq_true rfl) dX10_conflictComes_198 (fun H locs jw => ?_)
          exact kr _ _ _ _ _ (Option.some.inj (j_ret eG0 hE)) jw dX10_conflictComes_201
      refine lv_if_le (tgt := 149) hx hb dX10_conflictComes_127 (by decide) (fun c27 => ?_) (fun c27 => ?_)
      · rw [if_pos c27] at hE
        exact J28 M  H locs ls hE jw (lv_sub hl [0, 1, 2, 3, 4, 5, 6, 7, 8] rfl)
      · rw [if_neg c27] at hE
        refine lv_aload_n hx hb dX10_conflictComes_130 rfl (lv_at hl 2 rfl) ?_
        refine lv_iconst (v := 3) hx hb dX10_conflictComes_131 (by decide) ?_
        refine lv_iload_n hx hb dX10_conflictComes_132 rfl (lv_at hl 3 rfl) ?_
        refine lv_iload_n hx hb dX10_conflictComes_133 rfl (lv_at hl 3 rfl) ?_
        refine lv_iload_n hx hb dX10_conflictComes_134 rfl (lv_at hl 5 rfl) ?_
        refine lv_iload_n hx hb dX10_conflictComes_135 rfl (lv_at hl 5 rfl) ?_
        refine lv_iload hx hb dX10_conflictComes_136 (lv_at hl 1 rfl) ?_
        refine lv_iadd hx hb dX10_conflictComes_138 ?_
        refine lv_iload hx hb dX10_conflictComes_139 (lv_at hl 7 rfl) ?_
        refine lv_iload hx hb dX10_conflictComes_141 (lv_at hl 7 rfl) ?_
        refine lv_iload hx hb dX10_conflictComes_143 (lv_at hl 1 rfl) ?_
        refine lv_iadd hx hb dX10_conflictComes_145 ?_
        obtain ⟨xx29, exx29, hE⟩ := j_bd hG28 hE
        try dsimp only at hE
        refine jc_vv [.int (3 : Int32), .int p1, .int p1, .int p3, .int (p3 + vv13), .int p5, .int (p5 + vv13)] [] jc jw hA ho (by decide) rfl (c_X10_chunkComes hY ho (M := M) exx29) sd_X10_252 rfl hl.1 (j_hR hRf hRl rfl rfl) (Nat.le_of_ble_eq_true rfl) dX10_conflictComes_146 (fun H locs jw => ?_)
        exact J28 xx29  H locs ls hE jw (lv_sub hl [0, 1, 2, 3, 4, 5, 6, 7, 8] rfl)
    have LP14 : ∀ (n : Nat) (vv15 : Int32) (H : Heap) (locs : List Loc) (ls : Array Slot), G14 (lp_X10_conflictComes_2 Y M o p4 p3 vv13 p6 p5 n vv15) = some r → JW D Y ty ad A s.heap M H locs → lv_has ls 9 [(8, .int vv15), (7, .int vv13), (0, .ref (ad o)), (1, .int p1), (2, .int p2), (3, .int p3), (4, .int p4), (5, .int p5), (6, .int p6)] → W p l e R s m args below meth c H locs 0 0 Q (F0 m 60 ls []) := by
      intro n
      induction n with
      | zero => intro vv15 H locs ls hE jw hl; exact absurd hE (hG14 _)
      | succ n ih =>
        intro vv15 H locs ls hE jw hl
        rw [lp_X10_conflictComes_2] at hE
        refine lv_aload_n hx hb dX10_conflictComes_60 rfl (lv_at hl 2 rfl) ?_
        refine jg_10_4 jc jw ho wd_6_63 dX10_conflictComes_61 ?_
        have B25 : ∀ (H : Heap) (locs : List Loc), JW D Y ty ad A s.heap M H locs → ((j_z (M o 4)) = 0 ∨ (p4 - vv15) ≤ (p3 + vv13) ∨ (p6 - vv15) ≤ (p5 + vv13)) → W p l e R s m args below meth c H locs 0 0 Q (F0 m 125 ls []) := by
          intro H locs jw hcc
          rw [if_pos hcc] at hE
          exact E14_125 vv15  H locs ls hE jw (lv_sub hl [0, 1, 2, 3, 4, 5, 6, 7, 8] rfl)
        refine lv_if_eq (tgt := 125) hx hb dX10_conflictComes_64 (by decide) (fun c16 => B25 _ _ jw (Or.inl c16)) (fun c16 => ?_)
        refine lv_iload hx hb dX10_conflictComes_67 (lv_at hl 6 rfl) ?_
        refine lv_iload hx hb dX10_conflictComes_69 (lv_at hl 0 rfl) ?_
        refine lv_isub hx hb dX10_conflictComes_71 ?_
        refine lv_iload_n hx hb dX10_conflictComes_72 rfl (lv_at hl 5 rfl) ?_
        refine lv_iload hx hb dX10_conflictComes_73 (lv_at hl 1 rfl) ?_
        refine lv_iadd hx hb dX10_conflictComes_75 ?_
        refine lv_icmp_le (tgt := 125) hx hb dX10_conflictComes_76 (by decide) (fun c17 => B25 _ _ jw (Or.inr (Or.inl c17))) (fun c17 => ?_)
        refine lv_iload hx hb dX10_conflictComes_79 (lv_at hl 8 rfl) ?_
        refine lv_iload hx hb dX10_conflictComes_81 (lv_at hl 0 rfl) ?_
        refine lv_isub hx hb dX10_conflictComes_83 ?_
        refine lv_iload hx hb dX10_conflictComes_84 (lv_at hl 7 rfl) ?_
        refine lv_iload hx hb dX10_conflictComes_86 (lv_at hl 1 rfl) ?_
        refine lv_iadd hx hb dX10_conflictComes_88 ?_
        refine lv_icmp_le (tgt := 125) hx hb dX10_conflictComes_89 (by decide) (fun c18 => B25 _ _ jw (Or.inr (Or.inr c18))) (fun c18 => ?_)
        rw [if_neg (fun hq => hq.elim (fun hq => (j_abs c16 hq)) (fun hq => hq.elim (fun hq => (j_abs c17 hq)) (fun hq => (j_abs c18 hq))))] at hE
        refine lv_aload_n hx hb dX10_conflictComes_92 rfl (lv_at hl 2 rfl) ?_
        refine jg_10_41 jc jw ho wd_6_100 dX10_conflictComes_93 ?_
        have k19 := j_sub hY ho 41 (f := 100) rfl (by decide) (by decide) (by decide)
        refine lv_iload hx hb dX10_conflictComes_96 (lv_at hl 6 rfl) ?_
        refine lv_iload hx hb dX10_conflictComes_98 (lv_at hl 0 rfl) ?_
        refine lv_isub hx hb dX10_conflictComes_100 ?_
        refine lv_iconst (v := 1) hx hb dX10_conflictComes_101 (by decide) ?_
        refine lv_isub hx hb dX10_conflictComes_102 ?_
        rcases Classical.em (j_g ((p4 - vv15) - (1 : Int32)) (j_ln Y (j_rf Y o 41))) with g20 | g20
        case inr => rw [if_neg g20] at hE; exact absurd hE (hG14 _)
        rw [if_pos g20] at hE
        refine jr_iald jc jw k19 (j_g_in g20) dX10_conflictComes_103 ?_
        refine lv_aload_n hx hb dX10_conflictComes_104 rfl (lv_at hl 2 rfl) ?_
        refine jg_10_43 jc jw ho wd_6_102 dX10_conflictComes_105 ?_
        have k21 := j_sub hY ho 43 (f := 100) rfl (by decide) (by decide) (by decide)
        refine lv_iload hx hb dX10_conflictComes_108 (lv_at hl 8 rfl) ?_
        refine lv_iload hx hb dX10_conflictComes_110 (lv_at hl 0 rfl) ?_
        refine lv_isub hx hb dX10_conflictComes_112 ?_
        refine lv_iconst (v := 1) hx hb dX10_conflictComes_113 (by decide) ?_
        refine lv_isub hx hb dX10_conflictComes_114 ?_
        rcases Classical.em (j_g ((p6 - vv15) - (1 : Int32)) (j_ln Y (j_rf Y o 43))) with g22 | g22
        case inr => rw [if_neg g22] at hE; exact absurd hE (hG14 _)
        rw [if_pos g22] at hE
        refine jr_iald jc jw k21 (j_g_in g22) dX10_conflictComes_115 ?_
        refine lv_icmp_ne (tgt := 125) hx hb dX10_conflictComes_116 (by decide) (fun c23 => ?_) (fun c23 => ?_)
        · rw [if_neg c23] at hE
          exact E14_125 vv15  H locs ls hE jw (lv_sub hl [0, 1, 2, 3, 4, 5, 6, 7, 8] rfl)
        · rw [if_pos c23] at hE
          obtain ⟨vv24, evv24, hE⟩ := j_lv hE
          try dsimp only at hE
          refine lv_iinc (v := vv24) (lv' := [(8, .int vv24), (7, .int vv13), (0, .ref (ad o)), (1, .int p1), (2, .int p2), (3, .int p3), (4, .int p4), (5, .int p5), (6, .int p6)]) hx hb dX10_conflictComes_119 hl (k := 0) rfl (by rw [evv24]; rfl) (by decide) rfl (fun ls hl => ?_)
          refine lv_goto (tgt := 60) hx hb dX10_conflictComes_122 (by decide) ?_
          exact ih vv24 H locs ls hE jw (lv_sub hl [0, 1, 2, 3, 4, 5, 6, 7, 8] rfl)
    exact LP14 j_fuel (0 : Int32) H locs ls hE jw (lv_sub hl [0, 1, 2, 3, 4, 5, 6, 7, 8] rfl)
  have LP1 : ∀ (n : Nat) (vv2 : Int32) (H : Heap) (locs : List Loc) (ls : Array Slot), G1 (lp_X10_conflictComes_1 Y M o p4 p3 p6 p5 n vv2) = some r → JW D Y ty ad A s.heap M H locs → lv_has ls 9 [(8, .int (0 : Int32)), (7, .int vv2), (0, .ref (ad o)), (1, .int p1), (2, .int p2), (3, .int p3), (4, .int p4), (5, .int p5), (6, .int p6)] → W p l e R s m args below meth c H locs 0 0 Q (F0 m 6 ls []) := by
    intro n
    induction n with
    | zero => intro vv2 H locs ls hE jw hl; exact absurd hE (hG1 _)
    | succ n ih =>
      intro vv2 H locs ls hE jw hl
      rw [lp_X10_conflictComes_1] at hE
      refine lv_aload_n hx hb dX10_conflictComes_6 rfl (lv_at hl 2 rfl) ?_
      refine jg_10_4 jc jw ho wd_6_63 dX10_conflictComes_7 ?_
      have B12 : ∀ (H : Heap) (locs : List Loc), JW D Y ty ad A s.heap M H locs → ((j_z (M o 4)) = 0 ∨ p4 ≤ (p3 + vv2) ∨ p6 ≤ (p5 + vv2)) → W p l e R s m args below meth c H locs 0 0 Q (F0 m 60 ls []) := by
        intro H locs jw hcc
        rw [if_pos hcc] at hE
        exact E1_60 vv2  H locs ls hE jw (lv_sub hl [0, 1, 2, 3, 4, 5, 6, 7, 8] rfl)
      refine lv_if_eq (tgt := 60) hx hb dX10_conflictComes_10 (by decide) (fun c3 => B12 _ _ jw (Or.inl c3)) (fun c3 => ?_)
      refine lv_iload_n hx hb dX10_conflictComes_13 rfl (lv_at hl 5 rfl) ?_
      refine lv_iload hx hb dX10_conflictComes_14 (lv_at hl 1 rfl) ?_
      refine lv_iadd hx hb dX10_conflictComes_16 ?_
      refine lv_iload hx hb dX10_conflictComes_17 (lv_at hl 6 rfl) ?_
      refine lv_icmp_ge (tgt := 60) hx hb dX10_conflictComes_19 (by decide) (fun c4 => B12 _ _ jw (Or.inr (Or.inl c4))) (fun c4 => ?_)
      refine lv_iload hx hb dX10_conflictComes_22 (lv_at hl 7 rfl) ?_
      refine lv_iload hx hb dX10_conflictComes_24 (lv_at hl 1 rfl) ?_
      refine lv_iadd hx hb dX10_conflictComes_26 ?_
      refine lv_iload hx hb dX10_conflictComes_27 (lv_at hl 8 rfl) ?_
      refine lv_icmp_ge (tgt := 60) hx hb dX10_conflictComes_29 (by decide) (fun c5 => B12 _ _ jw (Or.inr (Or.inr c5))) (fun c5 => ?_)
      rw [if_neg (fun hq => hq.elim (fun hq => (j_abs c3 hq)) (fun hq => hq.elim (fun hq => (j_abs c4 hq)) (fun hq => (j_abs c5 hq))))] at hE
      refine lv_aload_n hx hb dX10_conflictComes_32 rfl (lv_at hl 2 rfl) ?_
      refine jg_10_41 jc jw ho wd_6_100 dX10_conflictComes_33 ?_
      have k6 := j_sub hY ho 41 (f := 100) rfl (by decide) (by decide) (by decide)
      refine lv_iload_n hx hb dX10_conflictComes_36 rfl (lv_at hl 5 rfl) ?_
      refine lv_iload hx hb dX10_conflictComes_37 (lv_at hl 1 rfl) ?_
      refine lv_iadd hx hb dX10_conflictComes_39 ?_
      rcases Classical.em (j_g (p3 + vv2) (j_ln Y (j_rf Y o 41))) with g7 | g7
      case inr => rw [if_neg g7] at hE; exact absurd hE (hG1 _)
      rw [if_pos g7] at hE
      refine jr_iald jc jw k6 (j_g_in g7) dX10_conflictComes_40 ?_
      refine lv_aload_n hx hb dX10_conflictComes_41 rfl (lv_at hl 2 rfl) ?_
      refine jg_10_43 jc jw ho wd_6_102 dX10_conflictComes_42 ?_
      have k8 := j_sub hY ho 43 (f := 100) rfl (by decide) (by decide) (by decide)
      refine lv_iload hx hb dX10_conflictComes_45 (lv_at hl 7 rfl) ?_
      refine lv_iload hx hb dX10_conflictComes_47 (lv_at hl 1 rfl) ?_
      refine lv_iadd hx hb dX10_conflictComes_49 ?_
      rcases Classical.em (j_g (p5 + vv2) (j_ln Y (j_rf Y o 43))) with g9 | g9
      case inr => rw [if_neg g9] at hE; exact absurd hE (hG1 _)
      rw [if_pos g9] at hE
      refine jr_iald jc jw k8 (j_g_in g9) dX10_conflictComes_50 ?_
      refine lv_icmp_ne (tgt := 60) hx hb dX10_conflictComes_51 (by decide) (fun c10 => ?_) (fun c10 => ?_)
      · rw [if_neg c10] at hE
        exact E1_60 vv2  H locs ls hE jw (lv_sub hl [0, 1, 2, 3, 4, 5, 6, 7, 8] rfl)
      · rw [if_pos c10] at hE
        obtain ⟨vv11, evv11, hE⟩ := j_lv hE
        try dsimp only at hE
        refine lv_iinc (v := vv11) (lv' := [(7, .int vv11), (8, .int (0 : Int32)), (0, .ref (ad o)), (1, .int p1), (2, .int p2), (3, .int p3), (4, .int p4), (5, .int p5), (6, .int p6)]) hx hb dX10_conflictComes_54 hl (k := 1) rfl (by rw [evv11]; rfl) (by decide) rfl (fun ls hl => ?_)
        refine lv_goto (tgt := 6) hx hb dX10_conflictComes_57 (by decide) ?_
        exact ih vv11 H locs ls hE jw (lv_sub hl [1, 0, 2, 3, 4, 5, 6, 7, 8] rfl)
  exact LP1 j_fuel (0 : Int32) s.heap [] ls hE jw (lv_sub hl [0, 1, 2, 3, 4, 5, 6, 7, 8] rfl)
def s_X10_regionComes (Y : JY) (M : JM) (o : Nat) (p1 : Int32) (p2 : Int32) (p3 : Int32) (p4 : Int32) (p5 : Int32) (p6 : Int32) : Option (JM) := (s_X10_alike Y M (j_rf Y o 41) p3 p4 (j_rf Y o 39) p1 p2).bind fun xx3 => if xx3 = 0 then ((s_X10_alike Y M (j_rf Y o 43) p5 p6 (j_rf Y o 39) p1 p2).bind fun xx7 => if xx7 = 0 then ((s_X10_alike Y M (j_rf Y o 41) p3 p4 (j_rf Y o 43) p5 p6).bind fun xx10 => if xx10 = 0 then ((s_X10_conflictComes Y M o p1 p2 p3 p4 p5 p6).bind fun xx13 => some xx13) else ((s_X10_chunkComes Y M o (3 : Int32) p1 p2 p3 p4 p5 p6).bind fun xx14 => some xx14)) else ((s_X10_chunkComes Y M o (1 : Int32) p1 p2 p3 p4 p5 p6).bind fun xx15 => some xx15)) else ((s_X10_chunkComes Y M o (2 : Int32) p1 p2 p3 p4 p5 p6).bind fun xx16 => some xx16)
set_option maxRecDepth 100000 in
set_option maxHeartbeats 4000000 in
theorem c_X10_regionComes {D : va_G} {Y : JY} {ty : Nat → ClassId} {ad : Nat → Nat} {sz : Nat} {l : Launch} {M : JM} (hY : j_ok Y) {o : Nat} {p1 : Int32} {p2 : Int32} {p3 : Int32} {p4 : Int32} {p5 : Int32} {p6 : Int32} (ho : j_kd Y o = 10) {r : JM} (hE : s_X10_regionComes Y M o p1 p2 p3 p4 p5 p6 = some r) : JMv D Y ty ad sz l yX10_regionComes cX10_regionComes 7 2 56 [.ref (ad o), .int p1, .int p2, .int p3, .int p4, .int p5, .int p6] M r := by
  refine j_ofV hY (by decide +kernel) (Nat.le_of_ble_eq_true rfl) (fun p e s m below meth c args R Q A hRf hRl hA jc jw kr ls hl => ?_)
  have hx := jc.1
  have hb := jc.2.1
  have hl : lv_has ls 7 [(0, .ref (ad o)), (1, .int p1), (2, .int p2), (3, .int p3), (4, .int p4), (5, .int p5), (6, .int p6)] := hl
  unfold s_X10_regionComes at hE
  obtain ⟨G0, eG0, hG0, hE⟩ := j_F0o hE
  refine lv_aload_n hx hb dX10_regionComes_0 rfl (lv_at hl 0 rfl) ?_
  refine jg_10_41 jc jw ho wd_6_100 dX10_regionComes_1 ?_
  have k1 := j_sub hY ho 41 (f := 100) rfl (by decide) (by decide) (by decide)
  refine lv_iload_n hx hb dX10_regionComes_4 rfl (lv_at hl 3 rfl) ?_
  refine lv_iload hx hb dX10_regionComes_5 (lv_at hl 4 rfl) ?_
  refine lv_aload_n hx hb dX10_regionComes_7 rfl (lv_at hl 0 rfl) ?_
  refine jg_10_39 jc jw ho wd_6_98 dX10_regionComes_8 ?_
  have k2 := j_sub hY ho 39 (f := 100) rfl (by decide) (by decide) (by decide)
  refine lv_iload_n hx hb dX10_regionComes_11 rfl (lv_at hl 1 rfl) ?_
  refine lv_iload_n hx hb dX10_regionComes_12 rfl (lv_at hl 2 rfl) ?_
  obtain ⟨xx3, exx3, hE⟩ := j_bd hG0 hE
  try dsimp only at hE
  refine jc_sz [.ref (ad (j_rf Y o 41)), .int p3, .int p4, .ref (ad (j_rf Y o 39)), .int p1, .int p2] [] jc jw hA (c_X10_alike hY k1 k2 (M := M) exx3) sd_X10_256 rfl hl.1 (j_hR hRf hRl rfl rfl) (Nat.le_of_ble_eq_true rfl) dX10_regionComes_13 (fun H locs jw hz => ?_)
  have z_4 := hz
  refine lv_if_eq (tgt := 36) hx hb dX10_regionComes_16 (by decide) (fun c5 => ?_) (fun c5 => ?_)
  · rw [if_pos c5] at hE
    refine lv_aload_n hx hb dX10_regionComes_36 rfl (lv_at hl 0 rfl) ?_
    refine jg_10_43 jc jw ho wd_6_102 dX10_regionComes_37 ?_
    have k6 := j_sub hY ho 43 (f := 100) rfl (by decide) (by decide) (by decide)
    refine lv_iload hx hb dX10_regionComes_40 (lv_at hl 5 rfl) ?_
    refine lv_iload hx hb dX10_regionComes_42 (lv_at hl 6 rfl) ?_
    refine lv_aload_n hx hb dX10_regionComes_44 rfl (lv_at hl 0 rfl) ?_
    refine jg_10_39 jc jw ho wd_6_98 dX10_regionComes_45 ?_
    refine lv_iload_n hx hb dX10_regionComes_48 rfl (lv_at hl 1 rfl) ?_
    refine lv_iload_n hx hb dX10_regionComes_49 rfl (lv_at hl 2 rfl) ?_
    obtain ⟨xx7, exx7, hE⟩ := j_bd hG0 hE
    try dsimp only at hE
    refine jc_sz [.ref (ad (j_rf Y o 43)), .int p5, .int p6, .ref (ad (j_rf Y o 39)), .int p1, .int p2] [] jc jw hA (c_X10_alike hY k6 k2 (M := M) exx7) sd_X10_256 rfl hl.1 (j_hR hRf hRl rfl rfl) (Nat.le_of_ble_eq_true rfl) dX10_regionComes_50 (fun H locs jw hz => ?_)
    have z_8 := hz
    refine lv_if_eq (tgt := 73) hx hb dX10_regionComes_53 (by decide) (fun c9 => ?_) (fun c9 => ?_)
    · rw [if_pos c9] at hE
      refine lv_aload_n hx hb dX10_regionComes_73 rfl (lv_at hl 0 rfl) ?_
      refine jg_10_41 jc jw ho wd_6_100 dX10_regionComes_74 ?_
      refine lv_iload_n hx hb dX10_regionComes_77 rfl (lv_at hl 3 rfl) ?_
      refine lv_iload hx hb dX10_regionComes_78 (lv_at hl 4 rfl) ?_
      refine lv_aload_n hx hb dX10_regionComes_80 rfl (lv_at hl 0 rfl) ?_
      refine jg_10_43 jc jw ho wd_6_102 dX10_regionComes_81 ?_
      refine lv_iload hx hb dX10_regionComes_84 (lv_at hl 5 rfl) ?_
      refine lv_iload hx hb dX10_regionComes_86 (lv_at hl 6 rfl) ?_
      obtain ⟨xx10, exx10, hE⟩ := j_bd hG0 hE
      try dsimp only at hE
      refine jc_sz [.ref (ad (j_rf Y o 41)), .int p3, .int p4, .ref (ad (j_rf Y o 43)), .int p5, .int p6] [] jc jw hA (c_X10_alike hY k1 k6 (M := M) exx10) sd_X10_256 rfl hl.1 (j_hR hRf hRl rfl rfl) (Nat.le_of_ble_eq_true rfl) dX10_regionComes_88 (fun H locs jw hz => ?_)
      have z_11 := hz
      refine lv_if_eq (tgt := 111) hx hb dX10_regionComes_91 (by decide) (fun c12 => ?_) (fun c12 => ?_)
      · rw [if_pos c12] at hE
        refine lv_aload_n hx hb dX10_regionComes_111 rfl (lv_at hl 0 rfl) ?_
        refine lv_iload_n hx hb dX10_regionComes_112 rfl (lv_at hl 1 rfl) ?_
        refine lv_iload_n hx hb dX10_regionComes_113 rfl (lv_at hl 2 rfl) ?_
        refine lv_iload_n hx hb dX10_regionComes_114 rfl (lv_at hl 3 rfl) ?_
        refine lv_iload hx hb dX10_regionComes_115 (lv_at hl 4 rfl) ?_
        refine lv_iload hx hb dX10_regionComes_117 (lv_at hl 5 rfl) ?_
        refine lv_iload hx hb dX10_regionComes_119 (lv_at hl 6 rfl) ?_
        obtain ⟨xx13, exx13, hE⟩ := j_bd hG0 hE
        try dsimp only at hE
        refine jc_vv [.int p1, .int p2, .int p3, .int p4, .int p5, .int p6] [] jc jw hA ho (by decide) rfl (c_X10_conflictComes hY ho (M := M) exx13) sd_X10_260 rfl hl.1 (j_hR hRf hRl rfl rfl) (Nat.le_of_ble_eq_true rfl) dX10_regionComes_121 (fun H locs jw => ?_)
        exact kr _ _ _ _ _ (Option.some.inj (j_ret eG0 hE)) jw dX10_regionComes_124
      · rw [if_neg c12] at hE
        refine lv_aload_n hx hb dX10_regionComes_94 rfl (lv_at hl 0 rfl) ?_
        refine lv_iconst (v := 3) hx hb dX10_regionComes_95 (by decide) ?_
        refine lv_iload_n hx hb dX10_regionComes_96 rfl (lv_at hl 1 rfl) ?_
        refine lv_iload_n hx hb dX10_regionComes_97 rfl (lv_at hl 2 rfl) ?_
        refine lv_iload_n hx hb dX10_regionComes_98 rfl (lv_at hl 3 rfl) ?_
        refine lv_iload hx hb dX10_regionComes_99 (lv_at hl 4 rfl) ?_
        refine lv_iload hx hb dX10_regionComes_101 (lv_at hl 5 rfl) ?_
        refine lv_iload hx hb dX10_regionComes_103 (lv_at hl 6 rfl) ?_
        obtain ⟨xx14, exx14, hE⟩ := j_bd hG0 hE
        try dsimp only at hE
        refine jc_vv [.int (3 : Int32), .int p1, .int p2, .int p3, .int p4, .int p5, .int p6] [] jc jw hA ho (by decide) rfl (c_X10_chunkComes hY ho (M := M) exx14) sd_X10_252 rfl hl.1 (j_hR hRf hRl rfl rfl) (Nat.le_of_ble_eq_true rfl) dX10_regionComes_105 (fun H locs jw => ?_)
        refine lv_goto (tgt := 124) hx hb dX10_regionComes_108 (by decide) ?_
        exact kr _ _ _ _ _ (Option.some.inj (j_ret eG0 hE)) jw dX10_regionComes_124
    · rw [if_neg c9] at hE
      refine lv_aload_n hx hb dX10_regionComes_56 rfl (lv_at hl 0 rfl) ?_
      refine lv_iconst (v := 1) hx hb dX10_regionComes_57 (by decide) ?_
      refine lv_iload_n hx hb dX10_regionComes_58 rfl (lv_at hl 1 rfl) ?_
      refine lv_iload_n hx hb dX10_regionComes_59 rfl (lv_at hl 2 rfl) ?_
      refine lv_iload_n hx hb dX10_regionComes_60 rfl (lv_at hl 3 rfl) ?_
      refine lv_iload hx hb dX10_regionComes_61 (lv_at hl 4 rfl) ?_
      refine lv_iload hx hb dX10_regionComes_63 (lv_at hl 5 rfl) ?_
      refine lv_iload hx hb dX10_regionComes_65 (lv_at hl 6 rfl) ?_
      obtain ⟨xx15, exx15, hE⟩ := j_bd hG0 hE
      try dsimp only at hE
      refine jc_vv [.int (1 : Int32), .int p1, .int p2, .int p3, .int p4, .int p5, .int p6] [] jc jw hA ho (by decide) rfl (c_X10_chunkComes hY ho (M := M) exx15) sd_X10_252 rfl hl.1 (j_hR hRf hRl rfl rfl) (Nat.le_of_ble_eq_true rfl) dX10_regionComes_67 (fun H locs jw => ?_)
      refine lv_goto (tgt := 124) hx hb dX10_regionComes_70 (by decide) ?_
      exact kr _ _ _ _ _ (Option.some.inj (j_ret eG0 hE)) jw dX10_regionComes_124
  · rw [if_neg c5] at hE
    refine lv_aload_n hx hb dX10_regionComes_19 rfl (lv_at hl 0 rfl) ?_
    refine lv_iconst (v := 2) hx hb dX10_regionComes_20 (by decide) ?_
    refine lv_iload_n hx hb dX10_regionComes_21 rfl (lv_at hl 1 rfl) ?_
    refine lv_iload_n hx hb dX10_regionComes_22 rfl (lv_at hl 2 rfl) ?_
    refine lv_iload_n hx hb dX10_regionComes_23 rfl (lv_at hl 3 rfl) ?_
    refine lv_iload hx hb dX10_regionComes_24 (lv_at hl 4 rfl) ?_
    refine lv_iload hx hb dX10_regionComes_26 (lv_at hl 5 rfl) ?_
    refine lv_iload hx hb dX10_regionComes_28 (lv_at hl 6 rfl) ?_
    obtain ⟨xx16, exx16, hE⟩ := j_bd hG0 hE
    try dsimp only at hE
    refine jc_vv [.int (2 : Int32), .int p1, .int p2, .int p3, .int p4, .int p5, .int p6] [] jc jw hA ho (by decide) rfl (c_X10_chunkComes hY ho (M := M) exx16) sd_X10_252 rfl hl.1 (j_hR hRf hRl rfl rfl) (Nat.le_of_ble_eq_true rfl) dX10_regionComes_30 (fun H locs jw => ?_)
    refine lv_goto (tgt := 124) hx hb dX10_regionComes_33 (by decide) ?_
    exact kr _ _ _ _ _ (Option.some.inj (j_ret eG0 hE)) jw dX10_regionComes_124
def lp_X10_merge_1 (Y : JY) (o : Nat) (n : Nat) (vv25 : Int32) (vv26 : Int32) (vv27 : Int32) (vv28 : Int32) (vv29 : Int32) (mm30 : JM) : Option (JM) := match n with
  | 0 => none
  | n + 1 => if (mm30 o 40) < vv29 then (some mm30) else (lt_ (if vv29 = (mm30 o 40) then ((1 : Int32)) else ((0 : Int32))) fun xx93 => ((if xx93 = 0 then (if j_g vv29 (j_ln Y (j_rf Y o 45)) then (if (mm30 (j_rf Y o 45) vv29.toNatClampNeg) < 0 then (some (Sum.inr (vv25, vv26, vv27, vv28, mm30))) else (if j_g vv29 (j_ln Y (j_rf Y o 46)) then (if (mm30 (j_rf Y o 46) vv29.toNatClampNeg) < 0 then (some (Sum.inr (vv25, vv26, vv27, vv28, mm30))) else (some (Sum.inl ()))) else none)) else none) else (some (Sum.inl ()))).bind fun xx85 => match xx85 with | Sum.inl _ => ((if xx93 = 0 then (if j_g vv29 (j_ln Y (j_rf Y o 45)) then (some (mm30 (j_rf Y o 45) vv29.toNatClampNeg)) else none) else (some (mm30 o 42))).bind fun xx84 => (if xx93 = 0 then (if j_g vv29 (j_ln Y (j_rf Y o 46)) then (some (mm30 (j_rf Y o 46) vv29.toNatClampNeg)) else none) else (some (mm30 o 44))).bind fun xx83 => (if vv25 < vv29 ∨ vv26 < xx84 ∨ ¬ (xx83 ≤ vv27) then ((s_X10_regionComes Y mm30 o vv25 vv29 vv26 xx84 vv27 xx83).bind fun xx54 => some ((0 : Int32), xx54)) else (some (vv28, mm30))).bind fun xx82 => (if xx93 = 0 then ((if xx82.1 = 0 then ((s_X10_chunkComes Y xx82.2 o (0 : Int32) vv29 (vv29 + (1 : Int32)) xx84 (xx84 + (1 : Int32)) xx83 (xx83 + (1 : Int32))).bind fun xx62 => some xx62) else (lt_ (((7 : Int32) * (xx82.2 o 48)) - (7 : Int32)) fun vv63 => if j_g (vv63 + (2 : Int32)) (j_ln Y (j_rf Y o 47)) then (if j_g (vv63 + (2 : Int32)) (j_ln Y (j_rf Y o 47)) then (lt_ (j_up xx82.2 (j_rf Y o 47) (vv63 + (2 : Int32)).toNatClampNeg ((xx82.2 (j_rf Y o 47) (vv63 + (2 : Int32)).toNatClampNeg) + (1 : Int32))) fun mm67 => if j_g (vv63 + (4 : Int32)) (j_ln Y (j_rf Y o 47)) then (if j_g (vv63 + (4 : Int32)) (j_ln Y (j_rf Y o 47)) then (lt_ (j_up mm67 (j_rf Y o 47) (vv63 + (4 : Int32)).toNatClampNeg ((mm67 (j_rf Y o 47) (vv63 + (4 : Int32)).toNatClampNeg) + (1 : Int32))) fun mm70 => if j_g (vv63 + (6 : Int32)) (j_ln Y (j_rf Y o 47)) then (if j_g (vv63 + (6 : Int32)) (j_ln Y (j_rf Y o 47)) then (lt_ (j_up mm70 (j_rf Y o 47) (vv63 + (6 : Int32)).toNatClampNeg ((mm70 (j_rf Y o 47) (vv63 + (6 : Int32)).toNatClampNeg) + (1 : Int32))) fun mm73 => some mm73) else none) else none) else none) else none) else none) else none)).bind fun xx75 => some ((1 : Int32), xx75)) else (some (xx82.1, xx82.2))).bind fun xx81 => lt_ (vv29 + (1 : Int32)) fun vv78 => lt_ (xx84 + (1 : Int32)) fun vv79 => lt_ (xx83 + (1 : Int32)) fun vv80 => some (vv78, vv79, vv80, xx81.1, xx81.2)) | Sum.inr yy85 => (some (yy85.1, yy85.2.1, yy85.2.2.1, yy85.2.2.2.1, yy85.2.2.2.2))).bind fun xx92 => lt_ (vv29 + (1 : Int32)) fun vv91 => lp_X10_merge_1 Y o n xx92.1 xx92.2.1 xx92.2.2.1 xx92.2.2.2.1 vv91 xx92.2.2.2.2)
def s_X10_merge (Y : JY) (M : JM) (o : Nat) (p1 : Int32) (p2 : Int32) (p3 : Int32) : Option (Int32 × JM) := if (s_X10_isRegister Y M p1) = 0 ∨ (s_X10_isRegister Y M p2) = 0 ∨ (s_X10_isRegister Y M p3) = 0 then (lt_ (s_X10_fails Y M o (1 : Int32)) fun xx7 => some (xx7.1, xx7.2)) else (lt_ (j_up M o 38 (1 : Int32)) fun mm8 => (s_X10_takes Y mm8 o p1 (j_rf Y o 39)).bind fun xx10 => lt_ (j_up xx10.2 o 40 xx10.1) fun mm11 => (s_X10_takes Y mm11 o p2 (j_rf Y o 41)).bind fun xx13 => lt_ (j_up xx13.2 o 42 xx13.1) fun mm14 => (s_X10_takes Y mm14 o p3 (j_rf Y o 43)).bind fun xx16 => lt_ (j_up xx16.2 o 44 xx16.1) fun mm17 => (s_X10_aligns Y mm17 o (j_rf Y o 39) (mm17 o 40) (j_rf Y o 41) (mm17 o 42) (j_rf Y o 45)).bind fun xx19 => (s_X10_aligns Y xx19 o (j_rf Y o 39) (xx19 o 40) (j_rf Y o 43) (xx19 o 44) (j_rf Y o 46)).bind fun xx21 => lt_ (j_up xx21 o 48 (0 : Int32)) fun mm22 => lt_ (j_up mm22 o 50 (0 : Int32)) fun mm23 => (lp_X10_merge_1 Y o j_fuel (0 : Int32) (0 : Int32) (0 : Int32) (0 : Int32) (0 : Int32) mm23).bind fun xx96 => lt_ (s_X10_done Y xx96 o (xx96 o 50)) fun xx95 => some (xx95.1, xx95.2))
set_option maxRecDepth 100000 in
set_option maxHeartbeats 4000000 in
theorem c_X10_merge {D : va_G} {Y : JY} {ty : Nat → ClassId} {ad : Nat → Nat} {sz : Nat} {l : Launch} {M : JM} (hY : j_ok Y) {o : Nat} {p1 : Int32} {p2 : Int32} {p3 : Int32} (ho : j_kd Y o = 10) {r : Int32 × JM} (hE : s_X10_merge Y M o p1 p2 p3 = some r) : JMi D Y ty ad sz l yX10_merge cX10_merge 13 (some .int) 4 111 [.ref (ad o), .int p1, .int p2, .int p3] M r.1 r.2 := by
  refine j_ofI hY (by decide +kernel) (Nat.le_of_ble_eq_true rfl) (fun p e s m below meth c args R Q A hRf hRl hA jc jw kr ls hl => ?_)
  have hx := jc.1
  have hb := jc.2.1
  have hl : lv_has ls 13 [(0, .ref (ad o)), (1, .int p1), (2, .int p2), (3, .int p3)] := hl
  unfold s_X10_merge at hE
  obtain ⟨G0, eG0, hG0, hE⟩ := j_F0o hE
  refine lv_iload_n hx hb dX10_merge_0 rfl (lv_at hl 1 rfl) ?_
  refine jc_sz [.int p1] [] jc jw hA (c_X10_isRegister hY  (M := M) rfl) sd_X10_126 rfl hl.1 (j_hR hRf hRl rfl rfl) (Nat.le_of_ble_eq_true rfl) dX10_merge_1 (fun H locs jw hz => ?_)
  have z_1 := hz
  have B97 : ∀ (H : Heap) (locs : List Loc), JW D Y ty ad A s.heap M H locs → ((s_X10_isRegister Y M p1) = 0 ∨ (s_X10_isRegister Y M p2) = 0 ∨ (s_X10_isRegister Y M p3) = 0) → W p l e R s m args below meth c H locs 0 0 Q (F0 m 21 ls []) := by
    intro H locs jw hcc
    rw [if_pos hcc] at hE
    refine lv_aload_n hx hb dX10_merge_21 rfl (lv_at hl 0 rfl) ?_
    refine lv_iconst (v := 1) hx hb dX10_merge_22 (by decide) ?_
    obtain ⟨xx7, exx7, hE⟩ := j_lv hE
    try dsimp only at hE
    refine jc_vi [.int (1 : Int32)] [] jc jw hA ho (by decide) rfl (c_X10_fails hY ho (M := M) exx7.symm) sd_X10_130 rfl hl.1 (j_hR hRf hRl rfl rfl) (Nat.le_of_ble_eq_true rfl) dX10_merge_23 (fun H locs jw => ?_)
    exact kr _ _ _ _ _ _ (congrArg Prod.fst (Option.some.inj (j_ret eG0 hE))) (congrArg Prod.snd (Option.some.inj (j_ret eG0 hE))) jw dX10_merge_26
  refine lv_if_eq (tgt := 21) hx hb dX10_merge_4 (by decide) (fun c2 => B97 _ _ jw (Or.inl c2)) (fun c2 => ?_)
  refine lv_iload_n hx hb dX10_merge_7 rfl (lv_at hl 2 rfl) ?_
  refine jc_sz [.int p2] [] jc jw hA (c_X10_isRegister hY  (M := M) rfl) sd_X10_126 rfl hl.1 (j_hR hRf hRl rfl rfl) (Nat.le_of_ble_eq_true rfl) dX10_merge_8 (fun H locs jw hz => ?_)
  have z_3 := hz
  refine lv_if_eq (tgt := 21) hx hb dX10_merge_11 (by decide) (fun c4 => B97 _ _ jw (Or.inr (Or.inl c4))) (fun c4 => ?_)
  refine lv_iload_n hx hb dX10_merge_14 rfl (lv_at hl 3 rfl) ?_
  refine jc_sz [.int p3] [] jc jw hA (c_X10_isRegister hY  (M := M) rfl) sd_X10_126 rfl hl.1 (j_hR hRf hRl rfl rfl) (Nat.le_of_ble_eq_true rfl) dX10_merge_15 (fun H locs jw hz => ?_)
  have z_5 := hz
  refine lv_if_ne (tgt := 27) hx hb dX10_merge_18 (by decide) (fun c6 => ?_) (fun c6 => B97 _ _ jw (Or.inr (Or.inr c6)))
  rw [if_neg (fun hq => hq.elim (fun hq => (j_abs c2 hq)) (fun hq => hq.elim (fun hq => (j_abs c4 hq)) (fun hq => (j_abs c6 hq))))] at hE
  refine lv_aload_n hx hb dX10_merge_27 rfl (lv_at hl 0 rfl) ?_
  refine lv_iconst (v := 1) hx hb dX10_merge_28 (by decide) ?_
  refine js_10_38 jc jw ho wd_6_97 (by decide) dX10_merge_29 (fun H locs jw => ?_)
  obtain ⟨mm8, emm8, hE⟩ := j_lv hE
  rw [← emm8] at jw
  try dsimp only at hE
  refine lv_aload_n hx hb dX10_merge_32 rfl (lv_at hl 0 rfl) ?_
  refine lv_aload_n hx hb dX10_merge_33 rfl (lv_at hl 0 rfl) ?_
  refine lv_iload_n hx hb dX10_merge_34 rfl (lv_at hl 1 rfl) ?_
  refine lv_aload_n hx hb dX10_merge_35 rfl (lv_at hl 0 rfl) ?_
  refine jg_10_39 jc jw ho wd_6_98 dX10_merge_36 ?_
  have k9 := j_sub hY ho 39 (f := 100) rfl (by decide) (by decide) (by decide)
  obtain ⟨xx10, exx10, hE⟩ := j_bd hG0 hE
  try dsimp only at hE
  refine jc_vi [.int p1, .ref (ad (j_rf Y o 39))] [.ref (ad o)] jc jw hA ho (by decide) rfl (c_X10_takes hY ho k9 (M := mm8) exx10) sd_X10_207 rfl hl.1 (j_hR hRf hRl rfl rfl) (Nat.le_of_ble_eq_true rfl) dX10_merge_39 (fun H locs jw => ?_)
  refine js_10_40 jc jw ho wd_6_99 dX10_merge_42 (fun H locs jw => ?_)
  obtain ⟨mm11, emm11, hE⟩ := j_lv hE
  rw [← emm11] at jw
  try dsimp only at hE
  refine lv_aload_n hx hb dX10_merge_45 rfl (lv_at hl 0 rfl) ?_
  refine lv_aload_n hx hb dX10_merge_46 rfl (lv_at hl 0 rfl) ?_
  refine lv_iload_n hx hb dX10_merge_47 rfl (lv_at hl 2 rfl) ?_
  refine lv_aload_n hx hb dX10_merge_48 rfl (lv_at hl 0 rfl) ?_
  refine jg_10_41 jc jw ho wd_6_100 dX10_merge_49 ?_
  have k12 := j_sub hY ho 41 (f := 100) rfl (by decide) (by decide) (by decide)
  obtain ⟨xx13, exx13, hE⟩ := j_bd hG0 hE
  try dsimp only at hE
  refine jc_vi [.int p2, .ref (ad (j_rf Y o 41))] [.ref (ad o)] jc jw hA ho (by decide) rfl (c_X10_takes hY ho k12 (M := mm11) exx13) sd_X10_207 rfl hl.1 (j_hR hRf hRl rfl rfl) (Nat.le_of_ble_eq_true rfl) dX10_merge_52 (fun H locs jw => ?_)
  refine js_10_42 jc jw ho wd_6_101 dX10_merge_55 (fun H locs jw => ?_)
  obtain ⟨mm14, emm14, hE⟩ := j_lv hE
  rw [← emm14] at jw
  try dsimp only at hE
  refine lv_aload_n hx hb dX10_merge_58 rfl (lv_at hl 0 rfl) ?_
  refine lv_aload_n hx hb dX10_merge_59 rfl (lv_at hl 0 rfl) ?_
  refine lv_iload_n hx hb dX10_merge_60 rfl (lv_at hl 3 rfl) ?_
  refine lv_aload_n hx hb dX10_merge_61 rfl (lv_at hl 0 rfl) ?_
  refine jg_10_43 jc jw ho wd_6_102 dX10_merge_62 ?_
  have k15 := j_sub hY ho 43 (f := 100) rfl (by decide) (by decide) (by decide)
  obtain ⟨xx16, exx16, hE⟩ := j_bd hG0 hE
  try dsimp only at hE
  refine jc_vi [.int p3, .ref (ad (j_rf Y o 43))] [.ref (ad o)] jc jw hA ho (by decide) rfl (c_X10_takes hY ho k15 (M := mm14) exx16) sd_X10_207 rfl hl.1 (j_hR hRf hRl rfl rfl) (Nat.le_of_ble_eq_true rfl) dX10_merge_65 (fun H locs jw => ?_)
  refine js_10_44 jc jw ho wd_6_103 dX10_merge_68 (fun H locs jw => ?_)
  obtain ⟨mm17, emm17, hE⟩ := j_lv hE
  rw [← emm17] at jw
  try dsimp only at hE
  refine lv_aload_n hx hb dX10_merge_71 rfl (lv_at hl 0 rfl) ?_
  refine lv_aload_n hx hb dX10_merge_72 rfl (lv_at hl 0 rfl) ?_
  refine jg_10_39 jc jw ho wd_6_98 dX10_merge_73 ?_
  refine lv_aload_n hx hb dX10_merge_76 rfl (lv_at hl 0 rfl) ?_
  refine jg_10_40 jc jw ho wd_6_99 dX10_merge_77 ?_
  refine lv_aload_n hx hb dX10_merge_80 rfl (lv_at hl 0 rfl) ?_
  refine jg_10_41 jc jw ho wd_6_100 dX10_merge_81 ?_
  refine lv_aload_n hx hb dX10_merge_84 rfl (lv_at hl 0 rfl) ?_
  refine jg_10_42 jc jw ho wd_6_101 dX10_merge_85 ?_
  refine lv_aload_n hx hb dX10_merge_88 rfl (lv_at hl 0 rfl) ?_
  refine jg_10_45 jc jw ho wd_6_104 dX10_merge_89 ?_
  have k18 := j_sub hY ho 45 (f := 100) rfl (by decide) (by decide) (by decide)
  obtain ⟨xx19, exx19, hE⟩ := j_bd hG0 hE
  try dsimp only at hE
  refine jc_vv [.ref (ad (j_rf Y o 39)), .int (mm17 o 40), .ref (ad (j_rf Y o 41)), .int (mm17 o 42), .ref (ad (j_rf Y o 45))] [] jc jw hA ho (by decide) rfl (c_X10_aligns hY ho k9 k12 k18 (M := mm17) exx19) sd_X10_223 rfl hl.1 (j_hR hRf hRl rfl rfl) (Nat.le_of_ble_eq_true rfl) dX10_merge_92 (fun H locs jw => ?_)
  refine lv_aload_n hx hb dX10_merge_95 rfl (lv_at hl 0 rfl) ?_
  refine lv_aload_n hx hb dX10_merge_96 rfl (lv_at hl 0 rfl) ?_
  refine jg_10_39 jc jw ho wd_6_98 dX10_merge_97 ?_
  refine lv_aload_n hx hb dX10_merge_100 rfl (lv_at hl 0 rfl) ?_
  refine jg_10_40 jc jw ho wd_6_99 dX10_merge_101 ?_
  refine lv_aload_n hx hb dX10_merge_104 rfl (lv_at hl 0 rfl) ?_
  refine jg_10_43 jc jw ho wd_6_102 dX10_merge_105 ?_
  refine lv_aload_n hx hb dX10_merge_108 rfl (lv_at hl 0 rfl) ?_
  refine jg_10_44 jc jw ho wd_6_103 dX10_merge_109 ?_
  refine lv_aload_n hx hb dX10_merge_112 rfl (lv_at hl 0 rfl) ?_
  refine jg_10_46 jc jw ho wd_6_105 dX10_merge_113 ?_
  have k20 := j_sub hY ho 46 (f := 100) rfl (by decide) (by decide) (by decide)
  obtain ⟨xx21, exx21, hE⟩ := j_bd hG0 hE
  try dsimp only at hE
  refine jc_vv [.ref (ad (j_rf Y o 39)), .int (xx19 o 40), .ref (ad (j_rf Y o 43)), .int (xx19 o 44), .ref (ad (j_rf Y o 46))] [] jc jw hA ho (by decide) rfl (c_X10_aligns hY ho k9 k15 k20 (M := xx19) exx21) sd_X10_223 rfl hl.1 (j_hR hRf hRl rfl rfl) (Nat.le_of_ble_eq_true rfl) dX10_merge_116 (fun H locs jw => ?_)
  refine lv_aload_n hx hb dX10_merge_119 rfl (lv_at hl 0 rfl) ?_
  refine lv_iconst (v := 0) hx hb dX10_merge_120 (by decide) ?_
  refine js_10_48 jc jw ho wd_6_107 dX10_merge_121 (fun H locs jw => ?_)
  obtain ⟨mm22, emm22, hE⟩ := j_lv hE
  rw [← emm22] at jw
  try dsimp only at hE
  refine lv_aload_n hx hb dX10_merge_124 rfl (lv_at hl 0 rfl) ?_
  refine lv_iconst (v := 0) hx hb dX10_merge_125 (by decide) ?_
  refine js_10_50 jc jw ho wd_6_109 dX10_merge_126 (fun H locs jw => ?_)
  obtain ⟨mm23, emm23, hE⟩ := j_lv hE
  rw [← emm23] at jw
  try dsimp only at hE
  refine lv_iconst (v := 0) hx hb dX10_merge_129 (by decide) ?_
  refine lv_istore (lv' := [(4, .int (0 : Int32)), (0, .ref (ad o)), (1, .int p1), (2, .int p2), (3, .int p3)]) hx hb dX10_merge_130 hl (by decide) rfl (fun ls hl => ?_)
  refine lv_iconst (v := 0) hx hb dX10_merge_132 (by decide) ?_
  refine lv_istore (lv' := [(5, .int (0 : Int32)), (4, .int (0 : Int32)), (0, .ref (ad o)), (1, .int p1), (2, .int p2), (3, .int p3)]) hx hb dX10_merge_133 hl (by decide) rfl (fun ls hl => ?_)
  refine lv_iconst (v := 0) hx hb dX10_merge_135 (by decide) ?_
  refine lv_istore (lv' := [(6, .int (0 : Int32)), (5, .int (0 : Int32)), (4, .int (0 : Int32)), (0, .ref (ad o)), (1, .int p1), (2, .int p2), (3, .int p3)]) hx hb dX10_merge_136 hl (by decide) rfl (fun ls hl => ?_)
  refine lv_iconst (v := 0) hx hb dX10_merge_138 (by decide) ?_
  refine lv_istore (lv' := [(7, .int (0 : Int32)), (6, .int (0 : Int32)), (5, .int (0 : Int32)), (4, .int (0 : Int32)), (0, .ref (ad o)), (1, .int p1), (2, .int p2), (3, .int p3)]) hx hb dX10_merge_139 hl (by decide) rfl (fun ls hl => ?_)
  refine lv_iconst (v := 0) hx hb dX10_merge_141 (by decide) ?_
  refine lv_istore (lv' := [(8, .int (0 : Int32)), (7, .int (0 : Int32)), (6, .int (0 : Int32)), (5, .int (0 : Int32)), (4, .int (0 : Int32)), (0, .ref (ad o)), (1, .int p1), (2, .int p2), (3, .int p3)]) hx hb dX10_merge_142 hl (by decide) rfl (fun ls hl => ?_)
  obtain ⟨G24, eG24, hG24, hE⟩ := j_ctxB hG0 hE
  have E24_391 : ∀ (mm94 : JM)  (H : Heap) (locs : List Loc) (ls : Array Slot), G24 (some mm94) = some r → JW D Y ty ad A s.heap mm94 H locs → lv_has ls 13 [(0, .ref (ad o))] → W p l e R s m args below meth c H locs 0 0 Q (F0 m 391 ls []) := by
    intro mm94  H locs ls hE jw hl
    replace hE := j_popB eG24 hE
    try dsimp only at hE
    refine lv_aload_n hx hb dX10_merge_391 rfl (lv_at hl 0 rfl) ?_
    refine lv_aload_n hx hb dX10_merge_392 rfl (lv_at hl 0 rfl) ?_
    refine jg_10_50 jc jw ho wd_6_109 dX10_merge_393 ?_
    obtain ⟨xx95, exx95, hE⟩ := j_lv hE
    try dsimp only at hE
    refine jc_vi [.int (mm94 o 50)] [] jc jw hA ho (by decide) rfl (c_X10_done hY ho (M := mm94) exx95.symm) sd_X10_138 rfl hl.1 (j_hR hRf hRl rfl rfl) (Nat.le_of_ble_eq_true rfl) dX10_merge_396 (fun H locs jw => ?_)
    exact kr _ _ _ _ _ _ (congrArg Prod.fst (Option.some.inj (j_ret eG0 hE))) (congrArg Prod.snd (Option.some.inj (j_ret eG0 hE))) jw dX10_merge_399
  have LP24 : ∀ (n : Nat) (vv25 : Int32) (vv26 : Int32) (vv27 : Int32) (vv28 : Int32) (vv29 : Int32) (mm30 : JM) (H : Heap) (locs : List Loc) (ls : Array Slot), G24 (lp_X10_merge_1 Y o n vv25 vv26 vv27 vv28 vv29 mm30) = some r → JW D Y ty ad A s.heap mm30 H locs → lv_has ls 13 [(8, .int vv29), (7, .int vv28), (6, .int vv27), (5, .int vv26), (4, .int vv25), (0, .ref (ad o))] → W p l e R s m args below meth c H locs 0 0 Q (F0 m 144 ls []) := by
    intro n
    induction n with
    | zero => intro vv25 vv26 vv27 vv28 vv29 mm30 H locs ls hE jw hl; exact absurd hE (hG24 _)
    | succ n ih =>
      intro vv25 vv26 vv27 vv28 vv29 mm30 H locs ls hE jw hl
      rw [lp_X10_merge_1] at hE
      refine lv_iload hx hb dX10_merge_144 (lv_at hl 0 rfl) ?_
      refine lv_aload_n hx hb dX10_merge_146 rfl (lv_at hl 5 rfl) ?_
      refine jg_10_40 jc jw ho wd_6_99 dX10_merge_147 ?_
      refine lv_icmp_gt (tgt := 391) hx hb dX10_merge_150 (by decide) (fun c31 => ?_) (fun c31 => ?_)
      · rw [if_pos c31] at hE
        exact E24_391 mm30  H locs ls hE jw (lv_sub hl [5] rfl)
      · rw [if_neg c31] at hE
        refine lv_iload hx hb dX10_merge_153 (lv_at hl 0 rfl) ?_
        refine lv_aload_n hx hb dX10_merge_155 rfl (lv_at hl 5 rfl) ?_
        refine jg_10_40 jc jw ho wd_6_99 dX10_merge_156 ?_
        obtain ⟨G33, eG33, hE⟩ := j_ctxL hE
        have J33 : ∀ (vv34 : Int32)  (H : Heap) (locs : List Loc) (ls : Array Slot), G33 (vv34) = some r → JW D Y ty ad A s.heap mm30 H locs → lv_has ls 13 [(8, .int vv29), (7, .int vv28), (6, .int vv27), (5, .int vv26), (4, .int vv25), (0, .ref (ad o))] → W p l e R s m args below meth c H locs 0 0 Q (F0 m 167 ls [.int vv34]) := by
          intro vv34  H locs ls hE jw hl
          replace hE := j_popL eG33 hE
          try dsimp only at hE
          refine lv_istore (lv' := [(9, .int vv34), (8, .int vv29), (7, .int vv28), (6, .int vv27), (5, .int vv26), (4, .int vv25), (0, .ref (ad o))]) hx hb dX10_merge_167 hl (by decide) rfl (fun ls hl => ?_)
          refine lv_iload hx hb dX10_merge_169 (lv_at hl 0 rfl) ?_
          obtain ⟨G36, eG36, hG36, hE⟩ := j_ctxB hG24 hE
          have J36 : ∀ (vv86 : Int32) (vv87 : Int32) (vv88 : Int32) (vv89 : Int32) (mm90 : JM)  (H : Heap) (locs : List Loc) (ls : Array Slot), G36 (some (vv86, vv87, vv88, vv89, mm90)) = some r → JW D Y ty ad A s.heap mm90 H locs → lv_has ls 13 [(8, .int vv29), (7, .int vv89), (6, .int vv88), (5, .int vv87), (4, .int vv86), (0, .ref (ad o))] → W p l e R s m args below meth c H locs 0 0 Q (F0 m 385 ls []) := by
            intro vv86 vv87 vv88 vv89 mm90  H locs ls hE jw hl
            replace hE := j_popB eG36 hE
            try dsimp only at hE
            obtain ⟨vv91, evv91, hE⟩ := j_lv hE
            try dsimp only at hE
            refine lv_iinc (v := vv91) (lv' := [(8, .int vv91), (7, .int vv89), (6, .int vv88), (5, .int vv87), (4, .int vv86), (0, .ref (ad o))]) hx hb dX10_merge_385 hl (k := 0) rfl (by rw [evv91]; rfl) (by decide) rfl (fun ls hl => ?_)
            refine lv_goto (tgt := 144) hx hb dX10_merge_388 (by decide) ?_
            exact ih vv86 vv87 vv88 vv89 vv91 mm90 H locs ls hE jw (lv_sub hl [0, 1, 2, 3, 4, 5] rfl)
          obtain ⟨G37, eG37, hG37, hE⟩ := j_ctxB hG36 hE
          have J37 : ∀   (H : Heap) (locs : List Loc) (ls : Array Slot), G37 (some (Sum.inl ())) = some r → JW D Y ty ad A s.heap mm30 H locs → lv_has ls 13 [(9, .int vv34), (8, .int vv29), (7, .int vv28), (6, .int vv27), (5, .int vv26), (4, .int vv25), (0, .ref (ad o))] → W p l e R s m args below meth c H locs 0 0 Q (F0 m 194 ls []) := by
            intro   H locs ls hE jw hl
            replace hE := j_popB eG37 hE
            try dsimp only at hE
            refine lv_iload hx hb dX10_merge_194 (lv_at hl 0 rfl) ?_
            obtain ⟨G43, eG43, hG43, hE⟩ := j_ctxB hG36 hE
            have J43 : ∀ (vv45 : Int32)  (H : Heap) (locs : List Loc) (ls : Array Slot), G43 (some vv45) = some r → JW D Y ty ad A s.heap mm30 H locs → lv_has ls 13 [(9, .int vv34), (8, .int vv29), (7, .int vv28), (6, .int vv27), (5, .int vv26), (4, .int vv25), (0, .ref (ad o))] → W p l e R s m args below meth c H locs 0 0 Q (F0 m 213 ls [.int vv45]) := by
              intro vv45  H locs ls hE jw hl
              replace hE := j_popB eG43 hE
              try dsimp only at hE
              refine lv_istore (lv' := [(10, .int vv45), (9, .int vv34), (8, .int vv29), (7, .int vv28), (6, .int vv27), (5, .int vv26), (4, .int vv25), (0, .ref (ad o))]) hx hb dX10_merge_213 hl (by decide) rfl (fun ls hl => ?_)
              refine lv_iload hx hb dX10_merge_215 (lv_at hl 1 rfl) ?_
              obtain ⟨G47, eG47, hG47, hE⟩ := j_ctxB hG36 hE
              have J47 : ∀ (vv49 : Int32)  (H : Heap) (locs : List Loc) (ls : Array Slot), G47 (some vv49) = some r → JW D Y ty ad A s.heap mm30 H locs → lv_has ls 13 [(10, .int vv45), (9, .int vv34), (8, .int vv29), (7, .int vv28), (6, .int vv27), (5, .int vv26), (4, .int vv25), (0, .ref (ad o))] → W p l e R s m args below meth c H locs 0 0 Q (F0 m 234 ls [.int vv49]) := by
                intro vv49  H locs ls hE jw hl
                replace hE := j_popB eG47 hE
                try dsimp only at hE
                refine lv_istore (lv' := [(11, .int vv49), (10, .int vv45), (9, .int vv34), (8, .int vv29), (7, .int vv28), (6, .int vv27), (5, .int vv26), (4, .int vv25), (0, .ref (ad o))]) hx hb dX10_merge_234 hl (by decide) rfl (fun ls hl => ?_)
                refine lv_iload hx hb dX10_merge_236 (lv_at hl 3 rfl) ?_
                refine lv_iload hx hb dX10_merge_238 (lv_at hl 7 rfl) ?_
                obtain ⟨G53, eG53, hG53, hE⟩ := j_ctxB hG36 hE
                have J53 : ∀ (vv56 : Int32) (mm57 : JM)  (H : Heap) (locs : List Loc) (ls : Array Slot), G53 (some (vv56, mm57)) = some r → JW D Y ty ad A s.heap mm57 H locs → lv_has ls 13 [(11, .int vv49), (10, .int vv45), (9, .int vv34), (8, .int vv29), (7, .int vv56), (0, .ref (ad o))] → W p l e R s m args below meth c H locs 0 0 Q (F0 m 276 ls []) := by
                  intro vv56 mm57  H locs ls hE jw hl
                  replace hE := j_popB eG53 hE
                  try dsimp only at hE
                  refine lv_iload hx hb dX10_merge_276 (lv_at hl 2 rfl) ?_
                  obtain ⟨G59, eG59, hG59, hE⟩ := j_ctxB hG36 hE
                  have J59 : ∀ (vv76 : Int32) (mm77 : JM)  (H : Heap) (locs : List Loc) (ls : Array Slot), G59 (some (vv76, mm77)) = some r → JW D Y ty ad A s.heap mm77 H locs → lv_has ls 13 [(11, .int vv49), (10, .int vv45), (8, .int vv29), (7, .int vv76), (0, .ref (ad o))] → W p l e R s m args below meth c H locs 0 0 Q (F0 m 367 ls []) := by
                    intro vv76 mm77  H locs ls hE jw hl
                    replace hE := j_popB eG59 hE
                    try dsimp only at hE
                    refine lv_iload hx hb dX10_merge_367 (lv_at hl 2 rfl) ?_
                    refine lv_iconst (v := 1) hx hb dX10_merge_369 (by decide) ?_
                    refine lv_iadd hx hb dX10_merge_370 ?_
                    refine lv_topi (fun vv78 evv78 => ?_)
                    replace hE := j_lu hE evv78
                    try dsimp only at hE
                    refine lv_istore (lv' := [(4, .int vv78), (11, .int vv49), (10, .int vv45), (8, .int vv29), (7, .int vv76), (0, .ref (ad o))]) hx hb dX10_merge_371 hl (by decide) rfl (fun ls hl => ?_)
                    refine lv_iload hx hb dX10_merge_373 (lv_at hl 2 rfl) ?_
                    refine lv_iconst (v := 1) hx hb dX10_merge_375 (by decide) ?_
                    refine lv_iadd hx hb dX10_merge_376 ?_
                    refine lv_topi (fun vv79 evv79 => ?_)
                    replace hE := j_lu hE evv79
                    try dsimp only at hE
                    refine lv_istore (lv' := [(5, .int vv79), (4, .int vv78), (11, .int vv49), (10, .int vv45), (8, .int vv29), (7, .int vv76), (0, .ref (ad o))]) hx hb dX10_merge_377 hl (by decide) rfl (fun ls hl => ?_)
                    refine lv_iload hx hb dX10_merge_379 (lv_at hl 2 rfl) ?_
                    refine lv_iconst (v := 1) hx hb dX10_merge_381 (by decide) ?_
                    refine lv_iadd hx hb dX10_merge_382 ?_
                    refine lv_topi (fun vv80 evv80 => ?_)
                    replace hE := j_lu hE evv80
                    try dsimp only at hE
                    refine lv_istore (lv' := [(6, .int vv80), (5, .int vv79), (4, .int vv78), (11, .int vv49), (10, .int vv45), (8, .int vv29), (7, .int vv76), (0, .ref (ad o))]) hx hb dX10_merge_383 hl (by decide) rfl (fun ls hl => ?_)
                    exact J36 vv78 vv79 vv80 vv76 mm77  H locs ls hE jw (lv_sub hl [5, 6, 0, 1, 2, 7] rfl)
                  refine lv_if_ne (tgt := 367) hx hb dX10_merge_278 (by decide) (fun c58 => ?_) (fun c58 => ?_)
                  · rw [if_neg c58] at hE
                    exact J59 vv56 mm57  H locs ls hE jw (lv_sub hl [0, 1, 3, 4, 5] rfl)
                  · rw [if_pos c58] at hE
                    refine lv_iload hx hb dX10_merge_281 (lv_at hl 4 rfl) ?_
                    obtain ⟨G61, eG61, hG61, hE⟩ := j_ctxB hG59 hE
                    have J61 : ∀ (mm74 : JM)  (H : Heap) (locs : List Loc) (ls : Array Slot), G61 (some mm74) = some r → JW D Y ty ad A s.heap mm74 H locs → lv_has ls 13 [(11, .int vv49), (10, .int vv45), (8, .int vv29), (0, .ref (ad o))] → W p l e R s m args below meth c H locs 0 0 Q (F0 m 364 ls []) := by
                      intro mm74  H locs ls hE jw hl
                      replace hE := j_popB eG61 hE
                      try dsimp only at hE
                      refine lv_iconst (v := 1) hx hb dX10_merge_364 (by decide) ?_
                      refine lv_istore (lv' := [(7, .int (1 : Int32)), (11, .int vv49), (10, .int vv45), (8, .int vv29), (0, .ref (ad o))]) hx hb dX10_merge_365 hl (by decide) rfl (fun ls hl => ?_)
                      exact J59 (1 : Int32) mm74  H locs ls hE jw (lv_sub hl [1, 2, 3, 0, 4] rfl)
                    refine lv_if_eq (tgt := 341) hx hb dX10_merge_283 (by decide) (fun c60 => ?_) (fun c60 => ?_)
                    · rw [if_pos c60] at hE
                      refine lv_aload_n hx hb dX10_merge_341 rfl (lv_at hl 5 rfl) ?_
                      refine lv_iconst (v := 0) hx hb dX10_merge_342 (by decide) ?_
                      refine lv_iload hx hb dX10_merge_343 (lv_at hl 3 rfl) ?_
                      refine lv_iload hx hb dX10_merge_345 (lv_at hl 3 rfl) ?_
                      refine lv_iconst (v := 1) hx hb dX10_merge_347 (by decide) ?_
                      refine lv_iadd hx hb dX10_merge_348 ?_
                      refine lv_iload hx hb dX10_merge_349 (lv_at hl 1 rfl) ?_
                      refine lv_iload hx hb dX10_merge_351 (lv_at hl 1 rfl) ?_
                      refine lv_iconst (v := 1) hx hb dX10_merge_353 (by decide) ?_
                      refine lv_iadd hx hb dX10_merge_354 ?_
                      refine lv_iload hx hb dX10_merge_355 (lv_at hl 0 rfl) ?_
                      refine lv_iload hx hb dX10_merge_357 (lv_at hl 0 rfl) ?_
                      refine lv_iconst (v := 1) hx hb dX10_merge_359 (by decide) ?_
                      refine lv_iadd hx hb dX10_merge_360 ?_
                      obtain ⟨xx62, exx62, hE⟩ := j_bd hG61 hE
                      try dsimp only at hE
                      refine jc_vv [.int (0 : Int32), .int vv29, .int (vv29 + (1 : Int32)), .int vv45, .int (vv45 + (1 : Int32)), .int vv49, .int (vv49 + (1 : Int32))] [] jc jw hA ho (by decide) rfl (c_X10_chunkComes hY ho (M := mm57) exx62) sd_X10_252 rfl hl.1 (j_hR hRf hRl rfl rfl) (Nat.le_of_ble_eq_true rfl) dX10_merge_361 (fun H locs jw => ?_)
                      exact J61 xx62  H locs ls hE jw (lv_sub hl [0, 1, 3, 5] rfl)
                    · rw [if_neg c60] at hE
                      refine lv_bipush (v := 7) hx hb dX10_merge_286 (by decide) ?_
                      refine lv_aload_n hx hb dX10_merge_288 rfl (lv_at hl 5 rfl) ?_
                      refine jg_10_48 jc jw ho wd_6_107 dX10_merge_289 ?_
                      refine lv_imul hx hb dX10_merge_292 ?_
                      refine lv_bipush (v := 7) hx hb dX10_merge_293 (by decide) ?_
                      refine lv_isub hx hb dX10_merge_295 ?_
                      refine lv_topi (fun vv63 evv63 => ?_)
                      replace hE := j_lu hE evv63
                      try dsimp only at hE
                      refine lv_istore (lv' := [(12, .int vv63), (11, .int vv49), (10, .int vv45), (9, .int vv34), (8, .int vv29), (7, .int vv56), (0, .ref (ad o))]) hx hb dX10_merge_296 hl (by decide) rfl (fun ls hl => ?_)
                      refine lv_aload_n hx hb dX10_merge_298 rfl (lv_at hl 6 rfl) ?_
                      refine jg_10_47 jc jw ho wd_6_106 dX10_merge_299 ?_
                      have k64 := j_sub hY ho 47 (f := 100) rfl (by decide) (by decide) (by decide)
                      refine lv_iload hx hb dX10_merge_302 (lv_at hl 0 rfl) ?_
                      refine lv_iconst (v := 2) hx hb dX10_merge_304 (by decide) ?_
                      refine lv_iadd hx hb dX10_merge_305 ?_
                      refine lv_dup2_11 hx hb dX10_merge_306 rfl rfl ?_
                      rcases Classical.em (j_g (vv63 + (2 : Int32)) (j_ln Y (j_rf Y o 47))) with g65 | g65
                      case inr => rw [if_neg g65] at hE; exact absurd hE (hG61 _)
                      rw [if_pos g65] at hE
                      refine jr_iald jc jw k64 (j_g_in g65) dX10_merge_307 ?_
                      refine lv_iconst (v := 1) hx hb dX10_merge_308 (by decide) ?_
                      refine lv_iadd hx hb dX10_merge_309 ?_
                      rcases Classical.em (j_g (vv63 + (2 : Int32)) (j_ln Y (j_rf Y o 47))) with g66 | g66
                      case inr => rw [if_neg g66] at hE; exact absurd hE (hG61 _)
                      rw [if_pos g66] at hE
                      refine jr_iast jc jw k64 (j_g_in g66) dX10_merge_310 (fun H locs jw => ?_)
                      obtain ⟨mm67, emm67, hE⟩ := j_lv hE
                      rw [← emm67] at jw
                      try dsimp only at hE
                      refine lv_aload_n hx hb dX10_merge_311 rfl (lv_at hl 6 rfl) ?_
                      refine jg_10_47 jc jw ho wd_6_106 dX10_merge_312 ?_
                      refine lv_iload hx hb dX10_merge_315 (lv_at hl 0 rfl) ?_
                      refine lv_iconst (v := 4) hx hb dX10_merge_317 (by decide) ?_
                      refine lv_iadd hx hb dX10_merge_318 ?_
                      refine lv_dup2_11 hx hb dX10_merge_319 rfl rfl ?_
                      rcases Classical.em (j_g (vv63 + (4 : Int32)) (j_ln Y (j_rf Y o 47))) with g68 | g68
                      case inr => rw [if_neg g68] at hE; exact absurd hE (hG61 _)
                      rw [if_pos g68] at hE
                      refine jr_iald jc jw k64 (j_g_in g68) dX10_merge_320 ?_
                      refine lv_iconst (v := 1) hx hb dX10_merge_321 (by decide) ?_
                      refine lv_iadd hx hb dX10_merge_322 ?_
                      rcases Classical.em (j_g (vv63 + (4 : Int32)) (j_ln Y (j_rf Y o 47))) with g69 | g69
                      case inr => rw [if_neg g69] at hE; exact absurd hE (hG61 _)
                      rw [if_pos g69] at hE
                      refine jr_iast jc jw k64 (j_g_in g69) dX10_merge_323 (fun H locs jw => ?_)
                      obtain ⟨mm70, emm70, hE⟩ := j_lv hE
                      rw [← emm70] at jw
                      try dsimp only at hE
                      refine lv_aload_n hx hb dX10_merge_324 rfl (lv_at hl 6 rfl) ?_
                      refine jg_10_47 jc jw ho wd_6_106 dX10_merge_325 ?_
                      refine lv_iload hx hb dX10_merge_328 (lv_at hl 0 rfl) ?_
                      refine lv_bipush (v := 6) hx hb dX10_merge_330 (by decide) ?_
                      refine lv_iadd hx hb dX10_merge_332 ?_
                      refine lv_dup2_11 hx hb dX10_merge_333 rfl rfl ?_
                      rcases Classical.em (j_g (vv63 + (6 : Int32)) (j_ln Y (j_rf Y o 47))) with g71 | g71
                      case inr => rw [if_neg g71] at hE; exact absurd hE (hG61 _)
                      rw [if_pos g71] at hE
                      refine jr_iald jc jw k64 (j_g_in g71) dX10_merge_334 ?_
                      refine lv_iconst (v := 1) hx hb dX10_merge_335 (by decide) ?_
                      refine lv_iadd hx hb dX10_merge_336 ?_
                      rcases Classical.em (j_g (vv63 + (6 : Int32)) (j_ln Y (j_rf Y o 47))) with g72 | g72
                      case inr => rw [if_neg g72] at hE; exact absurd hE (hG61 _)
                      rw [if_pos g72] at hE
                      refine jr_iast jc jw k64 (j_g_in g72) dX10_merge_337 (fun H locs jw => ?_)
                      obtain ⟨mm73, emm73, hE⟩ := j_lv hE
                      rw [← emm73] at jw
                      try dsimp only at hE
                      refine lv_goto (tgt := 364) hx hb dX10_merge_338 (by decide) ?_
                      exact J61 mm73  H locs ls hE jw (lv_sub hl [1, 2, 4, 6] rfl)
                have B55 : ∀ (H : Heap) (locs : List Loc), JW D Y ty ad A s.heap mm30 H locs → (vv25 < vv29 ∨ vv26 < vv45 ∨ ¬ (vv49 ≤ vv27)) → W p l e R s m args below meth c H locs 0 0 Q (F0 m 257 ls []) := by
                  intro H locs jw hcc
                  rw [if_pos hcc] at hE
                  refine lv_aload_n hx hb dX10_merge_257 rfl (lv_at hl 8 rfl) ?_
                  refine lv_iload hx hb dX10_merge_258 (lv_at hl 7 rfl) ?_
                  refine lv_iload hx hb dX10_merge_260 (lv_at hl 3 rfl) ?_
                  refine lv_iload hx hb dX10_merge_262 (lv_at hl 6 rfl) ?_
                  refine lv_iload hx hb dX10_merge_264 (lv_at hl 1 rfl) ?_
                  refine lv_iload hx hb dX10_merge_266 (lv_at hl 5 rfl) ?_
                  refine lv_iload hx hb dX10_merge_268 (lv_at hl 0 rfl) ?_
                  obtain ⟨xx54, exx54, hE⟩ := j_bd hG53 hE
                  try dsimp only at hE
                  refine jc_vv [.int vv25, .int vv29, .int vv26, .int vv45, .int vv27, .int vv49] [] jc jw hA ho (by decide) rfl (c_X10_regionComes hY ho (M := mm30) exx54) sd_X10_276 rfl hl.1 (j_hR hRf hRl rfl rfl) (Nat.le_of_ble_eq_true rfl) dX10_merge_270 (fun H locs jw => ?_)
                  refine lv_iconst (v := 0) hx hb dX10_merge_273 (by decide) ?_
                  refine lv_istore (lv' := [(7, .int (0 : Int32)), (11, .int vv49), (10, .int vv45), (9, .int vv34), (8, .int vv29), (6, .int vv27), (5, .int vv26), (4, .int vv25), (0, .ref (ad o))]) hx hb dX10_merge_274 hl (by decide) rfl (fun ls hl => ?_)
                  exact J53 (0 : Int32) xx54  H locs ls hE jw (lv_sub hl [1, 2, 3, 4, 0, 8] rfl)
                refine lv_icmp_gt (tgt := 257) hx hb dX10_merge_240 (by decide) (fun c50 => B55 _ _ jw (Or.inl c50)) (fun c50 => ?_)
                refine lv_iload hx hb dX10_merge_243 (lv_at hl 1 rfl) ?_
                refine lv_iload hx hb dX10_merge_245 (lv_at hl 6 rfl) ?_
                refine lv_icmp_gt (tgt := 257) hx hb dX10_merge_247 (by decide) (fun c51 => B55 _ _ jw (Or.inr (Or.inl c51))) (fun c51 => ?_)
                refine lv_iload hx hb dX10_merge_250 (lv_at hl 0 rfl) ?_
                refine lv_iload hx hb dX10_merge_252 (lv_at hl 5 rfl) ?_
                refine lv_icmp_le (tgt := 276) hx hb dX10_merge_254 (by decide) (fun c52 => ?_) (fun c52 => B55 _ _ jw (Or.inr (Or.inr c52)))
                rw [if_neg (fun hq => hq.elim (fun hq => (j_abs c50 hq)) (fun hq => hq.elim (fun hq => (j_abs c51 hq)) (fun hq => (j_absn c52 hq))))] at hE
                exact J53 vv28 mm30  H locs ls hE jw (lv_sub hl [0, 1, 2, 3, 4, 8] rfl)
              refine lv_if_eq (tgt := 227) hx hb dX10_merge_217 (by decide) (fun c46 => ?_) (fun c46 => ?_)
              · rw [if_pos c46] at hE
                refine lv_aload_n hx hb dX10_merge_227 rfl (lv_at hl 7 rfl) ?_
                refine jg_10_46 jc jw ho wd_6_105 dX10_merge_228 ?_
                refine lv_iload hx hb dX10_merge_231 (lv_at hl 2 rfl) ?_
                rcases Classical.em (j_g vv29 (j_ln Y (j_rf Y o 46))) with g48 | g48
                case inr => rw [if_neg g48] at hE; exact absurd hE (hG47 _)
                rw [if_pos g48] at hE
                refine jr_iald jc jw k20 (j_g_in g48) dX10_merge_233 ?_
                exact J47 (mm30 (j_rf Y o 46) vv29.toNatClampNeg)  H locs ls hE jw (lv_sub hl [0, 1, 2, 3, 4, 5, 6, 7] rfl)
              · rw [if_neg c46] at hE
                refine lv_aload_n hx hb dX10_merge_220 rfl (lv_at hl 7 rfl) ?_
                refine jg_10_44 jc jw ho wd_6_103 dX10_merge_221 ?_
                refine lv_goto (tgt := 234) hx hb dX10_merge_224 (by decide) ?_
                exact J47 (mm30 o 44)  H locs ls hE jw (lv_sub hl [0, 1, 2, 3, 4, 5, 6, 7] rfl)
            refine lv_if_eq (tgt := 206) hx hb dX10_merge_196 (by decide) (fun c42 => ?_) (fun c42 => ?_)
            · rw [if_pos c42] at hE
              refine lv_aload_n hx hb dX10_merge_206 rfl (lv_at hl 6 rfl) ?_
              refine jg_10_45 jc jw ho wd_6_104 dX10_merge_207 ?_
              refine lv_iload hx hb dX10_merge_210 (lv_at hl 1 rfl) ?_
              rcases Classical.em (j_g vv29 (j_ln Y (j_rf Y o 45))) with g44 | g44
              case inr => rw [if_neg g44] at hE; exact absurd hE (hG43 _)
              rw [if_pos g44] at hE
              refine jr_iald jc jw k18 (j_g_in g44) dX10_merge_212 ?_
              exact J43 (mm30 (j_rf Y o 45) vv29.toNatClampNeg)  H locs ls hE jw (lv_sub hl [0, 1, 2, 3, 4, 5, 6] rfl)
            · rw [if_neg c42] at hE
              refine lv_aload_n hx hb dX10_merge_199 rfl (lv_at hl 6 rfl) ?_
              refine jg_10_42 jc jw ho wd_6_101 dX10_merge_200 ?_
              refine lv_goto (tgt := 213) hx hb dX10_merge_203 (by decide) ?_
              exact J43 (mm30 o 42)  H locs ls hE jw (lv_sub hl [0, 1, 2, 3, 4, 5, 6] rfl)
          refine lv_if_ne (tgt := 194) hx hb dX10_merge_171 (by decide) (fun c35 => ?_) (fun c35 => ?_)
          · rw [if_neg c35] at hE
            exact J37   H locs ls hE jw (lv_sub hl [0, 1, 2, 3, 4, 5, 6] rfl)
          · rw [if_pos c35] at hE
            refine lv_aload_n hx hb dX10_merge_174 rfl (lv_at hl 6 rfl) ?_
            refine jg_10_45 jc jw ho wd_6_104 dX10_merge_175 ?_
            refine lv_iload hx hb dX10_merge_178 (lv_at hl 1 rfl) ?_
            rcases Classical.em (j_g vv29 (j_ln Y (j_rf Y o 45))) with g38 | g38
            case inr => rw [if_neg g38] at hE; exact absurd hE (hG37 _)
            rw [if_pos g38] at hE
            refine jr_iald jc jw k18 (j_g_in g38) dX10_merge_180 ?_
            refine lv_if_lt (tgt := 385) hx hb dX10_merge_181 (by decide) (fun c39 => ?_) (fun c39 => ?_)
            · rw [if_pos c39] at hE
              replace hE := j_popB eG37 hE
              try dsimp only at hE
              exact J36 vv25 vv26 vv27 vv28 mm30  H locs ls hE jw (lv_sub hl [1, 2, 3, 4, 5, 6] rfl)
            · rw [if_neg c39] at hE
              refine lv_aload_n hx hb dX10_merge_184 rfl (lv_at hl 6 rfl) ?_
              refine jg_10_46 jc jw ho wd_6_105 dX10_merge_185 ?_
              refine lv_iload hx hb dX10_merge_188 (lv_at hl 1 rfl) ?_
              rcases Classical.em (j_g vv29 (j_ln Y (j_rf Y o 46))) with g40 | g40
              case inr => rw [if_neg g40] at hE; exact absurd hE (hG37 _)
              rw [if_pos g40] at hE
              refine jr_iald jc jw k20 (j_g_in g40) dX10_merge_190 ?_
              refine lv_if_lt (tgt := 385) hx hb dX10_merge_191 (by decide) (fun c41 => ?_) (fun c41 => ?_)
              · rw [if_pos c41] at hE
                replace hE := j_popB eG37 hE
                try dsimp only at hE
                exact J36 vv25 vv26 vv27 vv28 mm30  H locs ls hE jw (lv_sub hl [1, 2, 3, 4, 5, 6] rfl)
              · rw [if_neg c41] at hE
                exact J37   H locs ls hE jw (lv_sub hl [0, 1, 2, 3, 4, 5, 6] rfl)
        refine lv_icmp_ne (tgt := 166) hx hb dX10_merge_159 (by decide) (fun c32 => ?_) (fun c32 => ?_)
        · rw [if_neg c32] at hE
          refine lv_iconst (v := 0) hx hb dX10_merge_166 (by decide) ?_
          exact J33 (0 : Int32)  H locs ls hE jw (lv_sub hl [0, 1, 2, 3, 4, 5] rfl)
        · rw [if_pos c32] at hE
          refine lv_iconst (v := 1) hx hb dX10_merge_162 (by decide) ?_
          refine lv_goto (tgt := 167) hx hb dX10_merge_163 (by decide) ?_
          exact J33 (1 : Int32)  H locs ls hE jw (lv_sub hl [0, 1, 2, 3, 4, 5] rfl)
  exact LP24 j_fuel (0 : Int32) (0 : Int32) (0 : Int32) (0 : Int32) (0 : Int32) mm23 H locs ls hE jw (lv_sub hl [0, 1, 2, 3, 4, 5] rfl)
def s_X10_chunks (Y : JY) (M : JM) (o : Nat) : Int32 × JM := if (j_z (M o 38)) = 0 then (lt_ (s_X10_fails Y M o (1 : Int32)) fun xx2 => (xx2.1, xx2.2)) else (lt_ (s_X10_done Y M o (M o 48)) fun xx3 => (xx3.1, xx3.2))
set_option maxRecDepth 100000 in
set_option maxHeartbeats 4000000 in
theorem c_X10_chunks {D : va_G} {Y : JY} {ty : Nat → ClassId} {ad : Nat → Nat} {sz : Nat} {l : Launch} {M : JM} (hY : j_ok Y) {o : Nat} (ho : j_kd Y o = 10) {r : Int32 × JM} (hE : s_X10_chunks Y M o = r) : JMi D Y ty ad sz l yX10_chunks cX10_chunks 1 (some .int) 1 21 [.ref (ad o)] M r.1 r.2 := by
  refine j_ofI hY (by decide +kernel) (Nat.le_of_ble_eq_true rfl) (fun p e s m below meth c args R Q A hRf hRl hA jc jw kr ls hl => ?_)
  have hx := jc.1
  have hb := jc.2.1
  have hl : lv_has ls 1 [(0, .ref (ad o))] := hl
  unfold s_X10_chunks at hE
  obtain ⟨G0, eG0, hE⟩ := j_F0 hE
  refine lv_aload_n hx hb dX10_chunks_0 rfl (lv_at hl 0 rfl) ?_
  refine jg_10_38 jc jw ho wd_6_97 dX10_chunks_1 ?_
  refine lv_if_eq (tgt := 18) hx hb dX10_chunks_4 (by decide) (fun c1 => ?_) (fun c1 => ?_)
  · rw [if_pos c1] at hE
    refine lv_aload_n hx hb dX10_chunks_18 rfl (lv_at hl 0 rfl) ?_
    refine lv_iconst (v := 1) hx hb dX10_chunks_19 (by decide) ?_
    obtain ⟨xx2, exx2, hE⟩ := j_lv hE
    try dsimp only at hE
    refine jc_vi [.int (1 : Int32)] [] jc jw hA ho (by decide) rfl (c_X10_fails hY ho (M := M) exx2.symm) sd_X10_130 rfl hl.1 (j_hR hRf hRl rfl rfl) (Nat.le_of_ble_eq_true rfl) dX10_chunks_20 (fun H locs jw => ?_)
    exact kr _ _ _ _ _ _ (congrArg Prod.fst (j_ret eG0 hE)) (congrArg Prod.snd (j_ret eG0 hE)) jw dX10_chunks_23
  · rw [if_neg c1] at hE
    refine lv_aload_n hx hb dX10_chunks_7 rfl (lv_at hl 0 rfl) ?_
    refine lv_aload_n hx hb dX10_chunks_8 rfl (lv_at hl 0 rfl) ?_
    refine jg_10_48 jc jw ho wd_6_107 dX10_chunks_9 ?_
    obtain ⟨xx3, exx3, hE⟩ := j_lv hE
    try dsimp only at hE
    refine jc_vi [.int (M o 48)] [] jc jw hA ho (by decide) rfl (c_X10_done hY ho (M := M) exx3.symm) sd_X10_138 rfl hl.1 (j_hR hRf hRl rfl rfl) (Nat.le_of_ble_eq_true rfl) dX10_chunks_12 (fun H locs jw => ?_)
    refine lv_goto (tgt := 23) hx hb dX10_chunks_15 (by decide) ?_
    exact kr _ _ _ _ _ _ (congrArg Prod.fst (j_ret eG0 hE)) (congrArg Prod.snd (j_ret eG0 hE)) jw dX10_chunks_23
def s_X10_chunk (Y : JY) (M : JM) (o : Nat) (p1 : Int32) (p2 : Int32) : Option (Int32 × JM) := if (j_z (M o 38)) = 0 then (lt_ (s_X10_fails Y M o (1 : Int32)) fun xx2 => some (xx2.1, xx2.2)) else (if (s_X10_in Y M p1 (0 : Int32) ((M o 48) - (1 : Int32))) = 0 then (lt_ (s_X10_fails Y M o (2 : Int32)) fun xx5 => some (xx5.1, xx5.2)) else (if (s_X10_in Y M p2 (0 : Int32) (6 : Int32)) = 0 then (lt_ (s_X10_fails Y M o (3 : Int32)) fun xx8 => some (xx8.1, xx8.2)) else (if j_g (((7 : Int32) * p1) + p2) (j_ln Y (j_rf Y o 47)) then (lt_ (s_X10_done Y M o (M (j_rf Y o 47) (((7 : Int32) * p1) + p2).toNatClampNeg)) fun xx11 => some (xx11.1, xx11.2)) else none)))
set_option maxRecDepth 100000 in
set_option maxHeartbeats 4000000 in
theorem c_X10_chunk {D : va_G} {Y : JY} {ty : Nat → ClassId} {ad : Nat → Nat} {sz : Nat} {l : Launch} {M : JM} (hY : j_ok Y) {o : Nat} {p1 : Int32} {p2 : Int32} (ho : j_kd Y o = 10) {r : Int32 × JM} (hE : s_X10_chunk Y M o p1 p2 = some r) : JMi D Y ty ad sz l yX10_chunk cX10_chunk 3 (some .int) 1 22 [.ref (ad o), .int p1, .int p2] M r.1 r.2 := by
  refine j_ofI hY (by decide +kernel) (Nat.le_of_ble_eq_true rfl) (fun p e s m below meth c args R Q A hRf hRl hA jc jw kr ls hl => ?_)
  have hx := jc.1
  have hb := jc.2.1
  have hl : lv_has ls 3 [(0, .ref (ad o)), (1, .int p1), (2, .int p2)] := hl
  unfold s_X10_chunk at hE
  obtain ⟨G0, eG0, hG0, hE⟩ := j_F0o hE
  refine lv_aload_n hx hb dX10_chunk_0 rfl (lv_at hl 0 rfl) ?_
  refine jg_10_38 jc jw ho wd_6_97 dX10_chunk_1 ?_
  refine lv_if_ne (tgt := 13) hx hb dX10_chunk_4 (by decide) (fun c1 => ?_) (fun c1 => ?_)
  · rw [if_neg c1] at hE
    refine lv_iload_n hx hb dX10_chunk_13 rfl (lv_at hl 1 rfl) ?_
    refine lv_iconst (v := 0) hx hb dX10_chunk_14 (by decide) ?_
    refine lv_aload_n hx hb dX10_chunk_15 rfl (lv_at hl 0 rfl) ?_
    refine jg_10_48 jc jw ho wd_6_107 dX10_chunk_16 ?_
    refine lv_iconst (v := 1) hx hb dX10_chunk_19 (by decide) ?_
    refine lv_isub hx hb dX10_chunk_20 ?_
    refine jc_sz [.int p1, .int (0 : Int32), .int ((M o 48) - (1 : Int32))] [] jc jw hA (c_X10_in hY  (M := M) rfl) sd_X10_119 rfl hl.1 (j_hR hRf hRl rfl rfl) (Nat.le_of_ble_eq_true rfl) dX10_chunk_21 (fun H locs jw hz => ?_)
    have z_3 := hz
    refine lv_if_ne (tgt := 33) hx hb dX10_chunk_24 (by decide) (fun c4 => ?_) (fun c4 => ?_)
    · rw [if_neg c4] at hE
      refine lv_iload_n hx hb dX10_chunk_33 rfl (lv_at hl 2 rfl) ?_
      refine lv_iconst (v := 0) hx hb dX10_chunk_34 (by decide) ?_
      refine lv_bipush (v := 6) hx hb dX10_chunk_35 (by decide) ?_
      refine jc_sz [.int p2, .int (0 : Int32), .int (6 : Int32)] [] jc jw hA (c_X10_in hY  (M := M) rfl) sd_X10_119 rfl hl.1 (j_hR hRf hRl rfl rfl) (Nat.le_of_ble_eq_true rfl) dX10_chunk_37 (fun H locs jw hz => ?_)
      have z_6 := hz
      refine lv_if_eq (tgt := 61) hx hb dX10_chunk_40 (by decide) (fun c7 => ?_) (fun c7 => ?_)
      · rw [if_pos c7] at hE
        refine lv_aload_n hx hb dX10_chunk_61 rfl (lv_at hl 0 rfl) ?_
        refine lv_iconst (v := 3) hx hb dX10_chunk_62 (by decide) ?_
        obtain ⟨xx8, exx8, hE⟩ := j_lv hE
        try dsimp only at hE
        refine jc_vi [.int (3 : Int32)] [] jc jw hA ho (by decide) rfl (c_X10_fails hY ho (M := M) exx8.symm) sd_X10_130 rfl hl.1 (j_hR hRf hRl rfl rfl) (Nat.le_of_ble_eq_true rfl) dX10_chunk_63 (fun H locs jw => ?_)
        exact kr _ _ _ _ _ _ (congrArg Prod.fst (Option.some.inj (j_ret eG0 hE))) (congrArg Prod.snd (Option.some.inj (j_ret eG0 hE))) jw dX10_chunk_66
      · rw [if_neg c7] at hE
        refine lv_aload_n hx hb dX10_chunk_43 rfl (lv_at hl 0 rfl) ?_
        refine lv_aload_n hx hb dX10_chunk_44 rfl (lv_at hl 0 rfl) ?_
        refine jg_10_47 jc jw ho wd_6_106 dX10_chunk_45 ?_
        have k9 := j_sub hY ho 47 (f := 100) rfl (by decide) (by decide) (by decide)
        refine lv_bipush (v := 7) hx hb dX10_chunk_48 (by decide) ?_
        refine lv_iload_n hx hb dX10_chunk_50 rfl (lv_at hl 1 rfl) ?_
        refine lv_imul hx hb dX10_chunk_51 ?_
        refine lv_iload_n hx hb dX10_chunk_52 rfl (lv_at hl 2 rfl) ?_
        refine lv_iadd hx hb dX10_chunk_53 ?_
        rcases Classical.em (j_g (((7 : Int32) * p1) + p2) (j_ln Y (j_rf Y o 47))) with g10 | g10
        case inr => rw [if_neg g10] at hE; exact absurd hE (hG0 _)
        rw [if_pos g10] at hE
        refine jr_iald jc jw k9 (j_g_in g10) dX10_chunk_54 ?_
        obtain ⟨xx11, exx11, hE⟩ := j_lv hE
        try dsimp only at hE
        refine jc_vi [.int (M (j_rf Y o 47) (((7 : Int32) * p1) + p2).toNatClampNeg)] [] jc jw hA ho (by decide) rfl (c_X10_done hY ho (M := M) exx11.symm) sd_X10_138 rfl hl.1 (j_hR hRf hRl rfl rfl) (Nat.le_of_ble_eq_true rfl) dX10_chunk_55 (fun H locs jw => ?_)
        refine lv_goto (tgt := 66) hx hb dX10_chunk_58 (by decide) ?_
        exact kr _ _ _ _ _ _ (congrArg Prod.fst (Option.some.inj (j_ret eG0 hE))) (congrArg Prod.snd (Option.some.inj (j_ret eG0 hE))) jw dX10_chunk_66
    · rw [if_pos c4] at hE
      refine lv_aload_n hx hb dX10_chunk_27 rfl (lv_at hl 0 rfl) ?_
      refine lv_iconst (v := 2) hx hb dX10_chunk_28 (by decide) ?_
      obtain ⟨xx5, exx5, hE⟩ := j_lv hE
      try dsimp only at hE
      refine jc_vi [.int (2 : Int32)] [] jc jw hA ho (by decide) rfl (c_X10_fails hY ho (M := M) exx5.symm) sd_X10_130 rfl hl.1 (j_hR hRf hRl rfl rfl) (Nat.le_of_ble_eq_true rfl) dX10_chunk_29 (fun H locs jw => ?_)
      exact kr _ _ _ _ _ _ (congrArg Prod.fst (Option.some.inj (j_ret eG0 hE))) (congrArg Prod.snd (Option.some.inj (j_ret eG0 hE))) jw dX10_chunk_32
  · rw [if_pos c1] at hE
    refine lv_aload_n hx hb dX10_chunk_7 rfl (lv_at hl 0 rfl) ?_
    refine lv_iconst (v := 1) hx hb dX10_chunk_8 (by decide) ?_
    obtain ⟨xx2, exx2, hE⟩ := j_lv hE
    try dsimp only at hE
    refine jc_vi [.int (1 : Int32)] [] jc jw hA ho (by decide) rfl (c_X10_fails hY ho (M := M) exx2.symm) sd_X10_130 rfl hl.1 (j_hR hRf hRl rfl rfl) (Nat.le_of_ble_eq_true rfl) dX10_chunk_9 (fun H locs jw => ?_)
    exact kr _ _ _ _ _ _ (congrArg Prod.fst (Option.some.inj (j_ret eG0 hE))) (congrArg Prod.snd (Option.some.inj (j_ret eG0 hE))) jw dX10_chunk_12
def lp_X10_goesOut_1 (Y : JY) (p3 : Int32) (q1 : Nat) (o : Nat) (n : Nat) (vv2 : Int32) (mm3 : JM) : Option (JM) := match n with
  | 0 => none
  | n + 1 => if p3 ≤ vv2 then (some mm3) else (if j_g vv2 (j_ln Y q1) then (if j_g (mm3 o 18) (j_ln Y (j_rf Y o 15)) then (lt_ (j_up mm3 (j_rf Y o 15) (mm3 o 18).toNatClampNeg (mm3 q1 vv2.toNatClampNeg)) fun mm8 => lt_ (j_up mm8 o 18 ((mm8 o 18) + (1 : Int32))) fun mm9 => lt_ (vv2 + (1 : Int32)) fun vv10 => lp_X10_goesOut_1 Y p3 q1 o n vv10 mm9) else none) else none)
def s_X10_goesOut (Y : JY) (M : JM) (o : Nat) (q1 : Nat) (p2 : Int32) (p3 : Int32) : Option (JM) := (lp_X10_goesOut_1 Y p3 q1 o j_fuel p2 M).bind fun xx11 => some xx11
set_option maxRecDepth 100000 in
set_option maxHeartbeats 4000000 in
theorem c_X10_goesOut {D : va_G} {Y : JY} {ty : Nat → ClassId} {ad : Nat → Nat} {sz : Nat} {l : Launch} {M : JM} (hY : j_ok Y) {o : Nat} {q1 : Nat} {p2 : Int32} {p3 : Int32} (ho : j_kd Y o = 10) (hq1 : j_kd Y q1 = 100) {r : JM} (hE : s_X10_goesOut Y M o q1 p2 p3 = some r) : JMv D Y ty ad sz l yX10_goesOut cX10_goesOut 5 0 0 [.ref (ad o), .ref (ad q1), .int p2, .int p3] M r := by
  refine j_ofV hY (by decide +kernel) (Nat.le_of_ble_eq_true rfl) (fun p e s m below meth c args R Q A hRf hRl hA jc jw kr ls hl => ?_)
  have hx := jc.1
  have hb := jc.2.1
  have hl : lv_has ls 5 [(0, .ref (ad o)), (1, .ref (ad q1)), (2, .int p2), (3, .int p3)] := hl
  unfold s_X10_goesOut at hE
  obtain ⟨G0, eG0, hG0, hE⟩ := j_F0o hE
  refine lv_iload_n hx hb dX10_goesOut_0 rfl (lv_at hl 2 rfl) ?_
  refine lv_istore (lv' := [(4, .int p2), (0, .ref (ad o)), (1, .ref (ad q1)), (2, .int p2), (3, .int p3)]) hx hb dX10_goesOut_1 hl (by decide) rfl (fun ls hl => ?_)
  obtain ⟨G1, eG1, hG1, hE⟩ := j_ctxB hG0 hE
  have LP1 : ∀ (n : Nat) (vv2 : Int32) (mm3 : JM) (H : Heap) (locs : List Loc) (ls : Array Slot), G1 (lp_X10_goesOut_1 Y p3 q1 o n vv2 mm3) = some r → JW D Y ty ad A s.heap mm3 H locs → lv_has ls 5 [(4, .int vv2), (0, .ref (ad o)), (1, .ref (ad q1)), (3, .int p3)] → W p l e R s m args below meth c H locs 0 0 Q (F0 m 3 ls []) := by
    intro n
    induction n with
    | zero => intro vv2 mm3 H locs ls hE jw hl; exact absurd hE (hG1 _)
    | succ n ih =>
      intro vv2 mm3 H locs ls hE jw hl
      rw [lp_X10_goesOut_1] at hE
      refine lv_iload hx hb dX10_goesOut_3 (lv_at hl 0 rfl) ?_
      refine lv_iload_n hx hb dX10_goesOut_5 rfl (lv_at hl 3 rfl) ?_
      refine lv_icmp_ge (tgt := 38) hx hb dX10_goesOut_6 (by decide) (fun c4 => ?_) (fun c4 => ?_)
      · rw [if_pos c4] at hE
        replace hE := j_popB eG1 hE
        try dsimp only at hE
        exact kr _ _ _ _ _ (Option.some.inj (j_ret eG0 hE)) jw dX10_goesOut_38
      · rw [if_neg c4] at hE
        refine lv_aload_n hx hb dX10_goesOut_9 rfl (lv_at hl 1 rfl) ?_
        refine jg_10_15 jc jw ho wd_6_74 dX10_goesOut_10 ?_
        have k5 := j_sub hY ho 15 (f := 100) rfl (by decide) (by decide) (by decide)
        refine lv_aload_n hx hb dX10_goesOut_13 rfl (lv_at hl 1 rfl) ?_
        refine jg_10_18 jc jw ho wd_6_77 dX10_goesOut_14 ?_
        refine lv_aload_n hx hb dX10_goesOut_17 rfl (lv_at hl 2 rfl) ?_
        refine lv_iload hx hb dX10_goesOut_18 (lv_at hl 0 rfl) ?_
        rcases Classical.em (j_g vv2 (j_ln Y q1)) with g6 | g6
        case inr => rw [if_neg g6] at hE; exact absurd hE (hG1 _)
        rw [if_pos g6] at hE
        refine jr_iald jc jw hq1 (j_g_in g6) dX10_goesOut_20 ?_
        rcases Classical.em (j_g (mm3 o 18) (j_ln Y (j_rf Y o 15))) with g7 | g7
        case inr => rw [if_neg g7] at hE; exact absurd hE (hG1 _)
        rw [if_pos g7] at hE
        refine jr_iast jc jw k5 (j_g_in g7) dX10_goesOut_21 (fun H locs jw => ?_)
        obtain ⟨mm8, emm8, hE⟩ := j_lv hE
        rw [← emm8] at jw
        try dsimp only at hE
        refine lv_aload_n hx hb dX10_goesOut_22 rfl (lv_at hl 1 rfl) ?_
        refine lv_dup hx hb dX10_goesOut_23 rfl ?_
        refine jg_10_18 jc jw ho wd_6_77 dX10_goesOut_24 ?_
        refine lv_iconst (v := 1) hx hb dX10_goesOut_27 (by decide) ?_
        refine lv_iadd hx hb dX10_goesOut_28 ?_
        refine js_10_18 jc jw ho wd_6_77 dX10_goesOut_29 (fun H locs jw => ?_)
        obtain ⟨mm9, emm9, hE⟩ := j_lv hE
        rw [← emm9] at jw
        try dsimp only at hE
        obtain ⟨vv10, evv10, hE⟩ := j_lv hE
        try dsimp only at hE
        refine lv_iinc (v := vv10) (lv' := [(4, .int vv10), (0, .ref (ad o)), (1, .ref (ad q1)), (3, .int p3)]) hx hb dX10_goesOut_32 hl (k := 0) rfl (by rw [evv10]; rfl) (by decide) rfl (fun ls hl => ?_)
        refine lv_goto (tgt := 3) hx hb dX10_goesOut_35 (by decide) ?_
        exact ih vv10 mm9 H locs ls hE jw (lv_sub hl [0, 1, 2, 3] rfl)
  exact LP1 j_fuel p2 M s.heap [] ls hE jw (lv_sub hl [0, 1, 2, 4] rfl)
def s_X10_mark (Y : JY) (M : JM) (o : Nat) (p1 : Int32) : Option (JM) := if j_g (M o 18) (j_ln Y (j_rf Y o 15)) then (lt_ (j_up M (j_rf Y o 15) (M o 18).toNatClampNeg p1) fun mm3 => lt_ (j_up mm3 o 18 ((mm3 o 18) + (1 : Int32))) fun mm4 => some mm4) else none
set_option maxRecDepth 100000 in
set_option maxHeartbeats 4000000 in
theorem c_X10_mark {D : va_G} {Y : JY} {ty : Nat → ClassId} {ad : Nat → Nat} {sz : Nat} {l : Launch} {M : JM} (hY : j_ok Y) {o : Nat} {p1 : Int32} (ho : j_kd Y o = 10) {r : JM} (hE : s_X10_mark Y M o p1 = some r) : JMv D Y ty ad sz l yX10_mark cX10_mark 2 0 0 [.ref (ad o), .int p1] M r := by
  refine j_ofV hY (by decide +kernel) (Nat.le_of_ble_eq_true rfl) (fun p e s m below meth c args R Q A hRf hRl hA jc jw kr ls hl => ?_)
  have hx := jc.1
  have hb := jc.2.1
  have hl : lv_has ls 2 [(0, .ref (ad o)), (1, .int p1)] := hl
  unfold s_X10_mark at hE
  obtain ⟨G0, eG0, hG0, hE⟩ := j_F0o hE
  refine lv_aload_n hx hb dX10_mark_0 rfl (lv_at hl 0 rfl) ?_
  refine jg_10_15 jc jw ho wd_6_74 dX10_mark_1 ?_
  have k1 := j_sub hY ho 15 (f := 100) rfl (by decide) (by decide) (by decide)
  refine lv_aload_n hx hb dX10_mark_4 rfl (lv_at hl 0 rfl) ?_
  refine jg_10_18 jc jw ho wd_6_77 dX10_mark_5 ?_
  refine lv_iload_n hx hb dX10_mark_8 rfl (lv_at hl 1 rfl) ?_
  rcases Classical.em (j_g (M o 18) (j_ln Y (j_rf Y o 15))) with g2 | g2
  case inr => rw [if_neg g2] at hE; exact absurd hE (hG0 _)
  rw [if_pos g2] at hE
  refine jr_iast jc jw k1 (j_g_in g2) dX10_mark_9 (fun H locs jw => ?_)
  obtain ⟨mm3, emm3, hE⟩ := j_lv hE
  rw [← emm3] at jw
  try dsimp only at hE
  refine lv_aload_n hx hb dX10_mark_10 rfl (lv_at hl 0 rfl) ?_
  refine lv_dup hx hb dX10_mark_11 rfl ?_
  refine jg_10_18 jc jw ho wd_6_77 dX10_mark_12 ?_
  refine lv_iconst (v := 1) hx hb dX10_mark_15 (by decide) ?_
  refine lv_iadd hx hb dX10_mark_16 ?_
  refine js_10_18 jc jw ho wd_6_77 dX10_mark_17 (fun H locs jw => ?_)
  obtain ⟨mm4, emm4, hE⟩ := j_lv hE
  rw [← emm4] at jw
  try dsimp only at hE
  exact kr _ _ _ _ _ (Option.some.inj (j_ret eG0 hE)) jw dX10_mark_20
def s_X10_resolvedOut (Y : JY) (M : JM) (o : Nat) (p1 : Int32) (p2 : Int32) : Option (JM) := (if p2 = (-1 : Int32) then ((s_X10_mark Y M o (-1 : Int32)).bind fun xx3 => some xx3) else (some M)).bind fun xx55 => (if p2 = 0 ∨ p2 = (2 : Int32) ∨ p2 = (-1 : Int32) then (if j_g (p1 + (3 : Int32)) (j_ln Y (j_rf Y o 47)) then (if j_g (p1 + (4 : Int32)) (j_ln Y (j_rf Y o 47)) then ((s_X10_goesOut Y xx55 o (j_rf Y o 41) (xx55 (j_rf Y o 47) (p1 + (3 : Int32)).toNatClampNeg) (xx55 (j_rf Y o 47) (p1 + (4 : Int32)).toNatClampNeg)).bind fun xx13 => some xx13) else none) else none) else (some xx55)).bind fun xx54 => (if p2 = (-1 : Int32) then ((s_X10_mark Y xx54 o (-2 : Int32)).bind fun xx18 => some xx18) else (some xx54)).bind fun xx53 => (if p2 = (1 : Int32) ∨ p2 = (2 : Int32) ∨ p2 = (3 : Int32) ∨ p2 = (-1 : Int32) then (if j_g (p1 + (5 : Int32)) (j_ln Y (j_rf Y o 47)) then (if j_g (p1 + (6 : Int32)) (j_ln Y (j_rf Y o 47)) then ((s_X10_goesOut Y xx53 o (j_rf Y o 43) (xx53 (j_rf Y o 47) (p1 + (5 : Int32)).toNatClampNeg) (xx53 (j_rf Y o 47) (p1 + (6 : Int32)).toNatClampNeg)).bind fun xx29 => some xx29) else none) else none) else (some xx53)).bind fun xx52 => (if p2 = (3 : Int32) then (if j_g (p1 + (3 : Int32)) (j_ln Y (j_rf Y o 47)) then (if j_g (p1 + (4 : Int32)) (j_ln Y (j_rf Y o 47)) then ((s_X10_goesOut Y xx52 o (j_rf Y o 41) (xx52 (j_rf Y o 47) (p1 + (3 : Int32)).toNatClampNeg) (xx52 (j_rf Y o 47) (p1 + (4 : Int32)).toNatClampNeg)).bind fun xx38 => some xx38) else none) else none) else (some xx52)).bind fun xx51 => (if p2 = (4 : Int32) then (if j_g (p1 + (1 : Int32)) (j_ln Y (j_rf Y o 47)) then (if j_g (p1 + (2 : Int32)) (j_ln Y (j_rf Y o 47)) then ((s_X10_goesOut Y xx51 o (j_rf Y o 39) (xx51 (j_rf Y o 47) (p1 + (1 : Int32)).toNatClampNeg) (xx51 (j_rf Y o 47) (p1 + (2 : Int32)).toNatClampNeg)).bind fun xx46 => some xx46) else none) else none) else (some xx51)).bind fun xx50 => if p2 = (-1 : Int32) then ((s_X10_mark Y xx50 o (-3 : Int32)).bind fun xx49 => some xx49) else (some xx50)
set_option maxRecDepth 100000 in
set_option maxHeartbeats 4000000 in
theorem c_X10_resolvedOut {D : va_G} {Y : JY} {ty : Nat → ClassId} {ad : Nat → Nat} {sz : Nat} {l : Launch} {M : JM} (hY : j_ok Y) {o : Nat} {p1 : Int32} {p2 : Int32} (ho : j_kd Y o = 10) {r : JM} (hE : s_X10_resolvedOut Y M o p1 p2 = some r) : JMv D Y ty ad sz l yX10_resolvedOut cX10_resolvedOut 3 1 24 [.ref (ad o), .int p1, .int p2] M r := by
  refine j_ofV hY (by decide +kernel) (Nat.le_of_ble_eq_true rfl) (fun p e s m below meth c args R Q A hRf hRl hA jc jw kr ls hl => ?_)
  have hx := jc.1
  have hb := jc.2.1
  have hl : lv_has ls 3 [(0, .ref (ad o)), (1, .int p1), (2, .int p2)] := hl
  unfold s_X10_resolvedOut at hE
  obtain ⟨G0, eG0, hG0, hE⟩ := j_F0o hE
  refine lv_iload_n hx hb dX10_resolvedOut_0 rfl (lv_at hl 2 rfl) ?_
  refine lv_iconst (v := -1) hx hb dX10_resolvedOut_1 (by decide) ?_
  obtain ⟨G2, eG2, hG2, hE⟩ := j_ctxB hG0 hE
  have J2 : ∀ (mm4 : JM)  (H : Heap) (locs : List Loc) (ls : Array Slot), G2 (some mm4) = some r → JW D Y ty ad A s.heap mm4 H locs → lv_has ls 3 [(0, .ref (ad o)), (1, .int p1), (2, .int p2)] → W p l e R s m args below meth c H locs 0 0 Q (F0 m 10 ls []) := by
    intro mm4  H locs ls hE jw hl
    replace hE := j_popB eG2 hE
    try dsimp only at hE
    refine lv_iload_n hx hb dX10_resolvedOut_10 rfl (lv_at hl 2 rfl) ?_
    obtain ⟨G8, eG8, hG8, hE⟩ := j_ctxB hG0 hE
    have J8 : ∀ (mm15 : JM)  (H : Heap) (locs : List Loc) (ls : Array Slot), G8 (some mm15) = some r → JW D Y ty ad A s.heap mm15 H locs → lv_has ls 3 [(0, .ref (ad o)), (1, .int p1), (2, .int p2)] → W p l e R s m args below meth c H locs 0 0 Q (F0 m 48 ls []) := by
      intro mm15  H locs ls hE jw hl
      replace hE := j_popB eG8 hE
      try dsimp only at hE
      refine lv_iload_n hx hb dX10_resolvedOut_48 rfl (lv_at hl 2 rfl) ?_
      refine lv_iconst (v := -1) hx hb dX10_resolvedOut_49 (by decide) ?_
      obtain ⟨G17, eG17, hG17, hE⟩ := j_ctxB hG0 hE
      have J17 : ∀ (mm19 : JM)  (H : Heap) (locs : List Loc) (ls : Array Slot), G17 (some mm19) = some r → JW D Y ty ad A s.heap mm19 H locs → lv_has ls 3 [(0, .ref (ad o)), (1, .int p1), (2, .int p2)] → W p l e R s m args below meth c H locs 0 0 Q (F0 m 59 ls []) := by
        intro mm19  H locs ls hE jw hl
        replace hE := j_popB eG17 hE
        try dsimp only at hE
        refine lv_iload_n hx hb dX10_resolvedOut_59 rfl (lv_at hl 2 rfl) ?_
        refine lv_iconst (v := 1) hx hb dX10_resolvedOut_60 (by decide) ?_
        obtain ⟨G24, eG24, hG24, hE⟩ := j_ctxB hG0 hE
        have J24 : ∀ (mm31 : JM)  (H : Heap) (locs : List Loc) (ls : Array Slot), G24 (some mm31) = some r → JW D Y ty ad A s.heap mm31 H locs → lv_has ls 3 [(0, .ref (ad o)), (1, .int p1), (2, .int p2)] → W p l e R s m args below meth c H locs 0 0 Q (F0 m 104 ls []) := by
          intro mm31  H locs ls hE jw hl
          replace hE := j_popB eG24 hE
          try dsimp only at hE
          refine lv_iload_n hx hb dX10_resolvedOut_104 rfl (lv_at hl 2 rfl) ?_
          refine lv_iconst (v := 3) hx hb dX10_resolvedOut_105 (by decide) ?_
          obtain ⟨G33, eG33, hG33, hE⟩ := j_ctxB hG0 hE
          have J33 : ∀ (mm39 : JM)  (H : Heap) (locs : List Loc) (ls : Array Slot), G33 (some mm39) = some r → JW D Y ty ad A s.heap mm39 H locs → lv_has ls 3 [(0, .ref (ad o)), (1, .int p1), (2, .int p2)] → W p l e R s m args below meth c H locs 0 0 Q (F0 m 133 ls []) := by
            intro mm39  H locs ls hE jw hl
            replace hE := j_popB eG33 hE
            try dsimp only at hE
            refine lv_iload_n hx hb dX10_resolvedOut_133 rfl (lv_at hl 2 rfl) ?_
            refine lv_iconst (v := 4) hx hb dX10_resolvedOut_134 (by decide) ?_
            obtain ⟨G41, eG41, hG41, hE⟩ := j_ctxB hG0 hE
            have J41 : ∀ (mm47 : JM)  (H : Heap) (locs : List Loc) (ls : Array Slot), G41 (some mm47) = some r → JW D Y ty ad A s.heap mm47 H locs → lv_has ls 3 [(0, .ref (ad o)), (2, .int p2)] → W p l e R s m args below meth c H locs 0 0 Q (F0 m 162 ls []) := by
              intro mm47  H locs ls hE jw hl
              replace hE := j_popB eG41 hE
              try dsimp only at hE
              refine lv_iload_n hx hb dX10_resolvedOut_162 rfl (lv_at hl 1 rfl) ?_
              refine lv_iconst (v := -1) hx hb dX10_resolvedOut_163 (by decide) ?_
              refine lv_icmp_ne (tgt := 173) hx hb dX10_resolvedOut_164 (by decide) (fun c48 => ?_) (fun c48 => ?_)
              · rw [if_neg c48] at hE
                exact kr _ _ _ _ _ (Option.some.inj (j_ret eG0 hE)) jw dX10_resolvedOut_173
              · rw [if_pos c48] at hE
                refine lv_aload_n hx hb dX10_resolvedOut_167 rfl (lv_at hl 0 rfl) ?_
                refine lv_bipush (v := -3) hx hb dX10_resolvedOut_168 (by decide) ?_
                obtain ⟨xx49, exx49, hE⟩ := j_bd hG0 hE
                try dsimp only at hE
                refine jc_vv [.int (-3 : Int32)] [] jc jw hA ho (by decide) rfl (c_X10_mark hY ho (M := mm47) exx49) sd_X10_279 rfl hl.1 (j_hR hRf hRl rfl rfl) (Nat.le_of_ble_eq_true rfl) dX10_resolvedOut_170 (fun H locs jw => ?_)
                exact kr _ _ _ _ _ (Option.some.inj (j_ret eG0 hE)) jw dX10_resolvedOut_173
            refine lv_icmp_ne (tgt := 162) hx hb dX10_resolvedOut_135 (by decide) (fun c40 => ?_) (fun c40 => ?_)
            · rw [if_neg c40] at hE
              exact J41 mm39  H locs ls hE jw (lv_sub hl [0, 2] rfl)
            · rw [if_pos c40] at hE
              refine lv_aload_n hx hb dX10_resolvedOut_138 rfl (lv_at hl 0 rfl) ?_
              refine lv_aload_n hx hb dX10_resolvedOut_139 rfl (lv_at hl 0 rfl) ?_
              refine jg_10_39 jc jw ho wd_6_98 dX10_resolvedOut_140 ?_
              have k42 := j_sub hY ho 39 (f := 100) rfl (by decide) (by decide) (by decide)
              refine lv_aload_n hx hb dX10_resolvedOut_143 rfl (lv_at hl 0 rfl) ?_
              refine jg_10_47 jc jw ho wd_6_106 dX10_resolvedOut_144 ?_
              have k43 := j_sub hY ho 47 (f := 100) rfl (by decide) (by decide) (by decide)
              refine lv_iload_n hx hb dX10_resolvedOut_147 rfl (lv_at hl 1 rfl) ?_
              refine lv_iconst (v := 1) hx hb dX10_resolvedOut_148 (by decide) ?_
              refine lv_iadd hx hb dX10_resolvedOut_149 ?_
              rcases Classical.em (j_g (p1 + (1 : Int32)) (j_ln Y (j_rf Y o 47))) with g44 | g44
              case inr => rw [if_neg g44] at hE; exact absurd hE (hG41 _)
              rw [if_pos g44] at hE
              refine jr_iald jc jw k43 (j_g_in g44) dX10_resolvedOut_150 ?_
              refine lv_aload_n hx hb dX10_resolvedOut_151 rfl (lv_at hl 0 rfl) ?_
              refine jg_10_47 jc jw ho wd_6_106 dX10_resolvedOut_152 ?_
              refine lv_iload_n hx hb dX10_resolvedOut_155 rfl (lv_at hl 1 rfl) ?_
              refine lv_iconst (v := 2) hx hb dX10_resolvedOut_156 (by decide) ?_
              refine lv_iadd hx hb dX10_resolvedOut_157 ?_
              rcases Classical.em (j_g (p1 + (2 : Int32)) (j_ln Y (j_rf Y o 47))) with g45 | g45
              case inr => rw [if_neg g45] at hE; exact absurd hE (hG41 _)
              rw [if_pos g45] at hE
              refine jr_iald jc jw k43 (j_g_in g45) dX10_resolvedOut_158 ?_
              obtain ⟨xx46, exx46, hE⟩ := j_bd hG41 hE
              try dsimp only at hE
              refine jc_vv [.ref (ad (j_rf Y o 39)), .int (mm39 (j_rf Y o 47) (p1 + (1 : Int32)).toNatClampNeg), .int (mm39 (j_rf Y o 47) (p1 + (2 : Int32)).toNatClampNeg)] [] jc jw hA ho (by decide) rfl (c_X10_goesOut hY ho k42 (M := mm39) exx46) sd_X10_282 rfl hl.1 (j_hR hRf hRl rfl rfl) (Nat.le_of_ble_eq_true rfl) dX10_resolvedOut_159 (fun H locs jw => ?_)
              exact J41 xx46  H locs ls hE jw (lv_sub hl [0, 2] rfl)
          refine lv_icmp_ne (tgt := 133) hx hb dX10_resolvedOut_106 (by decide) (fun c32 => ?_) (fun c32 => ?_)
          · rw [if_neg c32] at hE
            exact J33 mm31  H locs ls hE jw (lv_sub hl [0, 1, 2] rfl)
          · rw [if_pos c32] at hE
            refine lv_aload_n hx hb dX10_resolvedOut_109 rfl (lv_at hl 0 rfl) ?_
            refine lv_aload_n hx hb dX10_resolvedOut_110 rfl (lv_at hl 0 rfl) ?_
            refine jg_10_41 jc jw ho wd_6_100 dX10_resolvedOut_111 ?_
            have k34 := j_sub hY ho 41 (f := 100) rfl (by decide) (by decide) (by decide)
            refine lv_aload_n hx hb dX10_resolvedOut_114 rfl (lv_at hl 0 rfl) ?_
            refine jg_10_47 jc jw ho wd_6_106 dX10_resolvedOut_115 ?_
            have k35 := j_sub hY ho 47 (f := 100) rfl (by decide) (by decide) (by decide)
            refine lv_iload_n hx hb dX10_resolvedOut_118 rfl (lv_at hl 1 rfl) ?_
            refine lv_iconst (v := 3) hx hb dX10_resolvedOut_119 (by decide) ?_
            refine lv_iadd hx hb dX10_resolvedOut_120 ?_
            rcases Classical.em (j_g (p1 + (3 : Int32)) (j_ln Y (j_rf Y o 47))) with g36 | g36
            case inr => rw [if_neg g36] at hE; exact absurd hE (hG33 _)
            rw [if_pos g36] at hE
            refine jr_iald jc jw k35 (j_g_in g36) dX10_resolvedOut_121 ?_
            refine lv_aload_n hx hb dX10_resolvedOut_122 rfl (lv_at hl 0 rfl) ?_
            refine jg_10_47 jc jw ho wd_6_106 dX10_resolvedOut_123 ?_
            refine lv_iload_n hx hb dX10_resolvedOut_126 rfl (lv_at hl 1 rfl) ?_
            refine lv_iconst (v := 4) hx hb dX10_resolvedOut_127 (by decide) ?_
            refine lv_iadd hx hb dX10_resolvedOut_128 ?_
            rcases Classical.em (j_g (p1 + (4 : Int32)) (j_ln Y (j_rf Y o 47))) with g37 | g37
            case inr => rw [if_neg g37] at hE; exact absurd hE (hG33 _)
            rw [if_pos g37] at hE
            refine jr_iald jc jw k35 (j_g_in g37) dX10_resolvedOut_129 ?_
            obtain ⟨xx38, exx38, hE⟩ := j_bd hG33 hE
            try dsimp only at hE
            refine jc_vv [.ref (ad (j_rf Y o 41)), .int (mm31 (j_rf Y o 47) (p1 + (3 : Int32)).toNatClampNeg), .int (mm31 (j_rf Y o 47) (p1 + (4 : Int32)).toNatClampNeg)] [] jc jw hA ho (by decide) rfl (c_X10_goesOut hY ho k34 (M := mm31) exx38) sd_X10_282 rfl hl.1 (j_hR hRf hRl rfl rfl) (Nat.le_of_ble_eq_true rfl) dX10_resolvedOut_130 (fun H locs jw => ?_)
            exact J33 xx38  H locs ls hE jw (lv_sub hl [0, 1, 2] rfl)
        have B30 : ∀ (H : Heap) (locs : List Loc), JW D Y ty ad A s.heap mm19 H locs → (p2 = (1 : Int32) ∨ p2 = (2 : Int32) ∨ p2 = (3 : Int32) ∨ p2 = (-1 : Int32)) → W p l e R s m args below meth c H locs 0 0 Q (F0 m 79 ls []) := by
          intro H locs jw hcc
          rw [if_pos hcc] at hE
          refine lv_aload_n hx hb dX10_resolvedOut_79 rfl (lv_at hl 0 rfl) ?_
          refine lv_aload_n hx hb dX10_resolvedOut_80 rfl (lv_at hl 0 rfl) ?_
          refine jg_10_43 jc jw ho wd_6_102 dX10_resolvedOut_81 ?_
          have k25 := j_sub hY ho 43 (f := 100) rfl (by decide) (by decide) (by decide)
          refine lv_aload_n hx hb dX10_resolvedOut_84 rfl (lv_at hl 0 rfl) ?_
          refine jg_10_47 jc jw ho wd_6_106 dX10_resolvedOut_85 ?_
          have k26 := j_sub hY ho 47 (f := 100) rfl (by decide) (by decide) (by decide)
          refine lv_iload_n hx hb dX10_resolvedOut_88 rfl (lv_at hl 1 rfl) ?_
          refine lv_iconst (v := 5) hx hb dX10_resolvedOut_89 (by decide) ?_
          refine lv_iadd hx hb dX10_resolvedOut_90 ?_
          rcases Classical.em (j_g (p1 + (5 : Int32)) (j_ln Y (j_rf Y o 47))) with g27 | g27
          case inr => rw [if_neg g27] at hE; exact absurd hE (hG24 _)
          rw [if_pos g27] at hE
          refine jr_iald jc jw k26 (j_g_in g27) dX10_resolvedOut_91 ?_
          refine lv_aload_n hx hb dX10_resolvedOut_92 rfl (lv_at hl 0 rfl) ?_
          refine jg_10_47 jc jw ho wd_6_106 dX10_resolvedOut_93 ?_
          refine lv_iload_n hx hb dX10_resolvedOut_96 rfl (lv_at hl 1 rfl) ?_
          refine lv_bipush (v := 6) hx hb dX10_resolvedOut_97 (by decide) ?_
          refine lv_iadd hx hb dX10_resolvedOut_99 ?_
          rcases Classical.em (j_g (p1 + (6 : Int32)) (j_ln Y (j_rf Y o 47))) with g28 | g28
          case inr => rw [if_neg g28] at hE; exact absurd hE (hG24 _)
          rw [if_pos g28] at hE
          refine jr_iald jc jw k26 (j_g_in g28) dX10_resolvedOut_100 ?_
          obtain ⟨xx29, exx29, hE⟩ := j_bd hG24 hE
          try dsimp only at hE
          refine jc_vv [.ref (ad (j_rf Y o 43)), .int (mm19 (j_rf Y o 47) (p1 + (5 : Int32)).toNatClampNeg), .int (mm19 (j_rf Y o 47) (p1 + (6 : Int32)).toNatClampNeg)] [] jc jw hA ho (by decide) rfl (c_X10_goesOut hY ho k25 (M := mm19) exx29) sd_X10_282 rfl hl.1 (j_hR hRf hRl rfl rfl) (Nat.le_of_ble_eq_true rfl) dX10_resolvedOut_101 (fun H locs jw => ?_)
          exact J24 xx29  H locs ls hE jw (lv_sub hl [0, 1, 2] rfl)
        refine lv_icmp_eq (tgt := 79) hx hb dX10_resolvedOut_61 (by decide) (fun c20 => B30 _ _ jw (Or.inl c20)) (fun c20 => ?_)
        refine lv_iload_n hx hb dX10_resolvedOut_64 rfl (lv_at hl 2 rfl) ?_
        refine lv_iconst (v := 2) hx hb dX10_resolvedOut_65 (by decide) ?_
        refine lv_icmp_eq (tgt := 79) hx hb dX10_resolvedOut_66 (by decide) (fun c21 => B30 _ _ jw (Or.inr (Or.inl c21))) (fun c21 => ?_)
        refine lv_iload_n hx hb dX10_resolvedOut_69 rfl (lv_at hl 2 rfl) ?_
        refine lv_iconst (v := 3) hx hb dX10_resolvedOut_70 (by decide) ?_
        refine lv_icmp_eq (tgt := 79) hx hb dX10_resolvedOut_71 (by decide) (fun c22 => B30 _ _ jw (Or.inr (Or.inr (Or.inl c22)))) (fun c22 => ?_)
        refine lv_iload_n hx hb dX10_resolvedOut_74 rfl (lv_at hl 2 rfl) ?_
        refine lv_iconst (v := -1) hx hb dX10_resolvedOut_75 (by decide) ?_
        refine lv_icmp_ne (tgt := 104) hx hb dX10_resolvedOut_76 (by decide) (fun c23 => ?_) (fun c23 => B30 _ _ jw (Or.inr (Or.inr (Or.inr c23))))
        rw [if_neg (fun hq => hq.elim (fun hq => (j_abs c20 hq)) (fun hq => hq.elim (fun hq => (j_abs c21 hq)) (fun hq => hq.elim (fun hq => (j_abs c22 hq)) (fun hq => (j_abs c23 hq)))))] at hE
        exact J24 mm19  H locs ls hE jw (lv_sub hl [0, 1, 2] rfl)
      refine lv_icmp_ne (tgt := 59) hx hb dX10_resolvedOut_50 (by decide) (fun c16 => ?_) (fun c16 => ?_)
      · rw [if_neg c16] at hE
        exact J17 mm15  H locs ls hE jw (lv_sub hl [0, 1, 2] rfl)
      · rw [if_pos c16] at hE
        refine lv_aload_n hx hb dX10_resolvedOut_53 rfl (lv_at hl 0 rfl) ?_
        refine lv_bipush (v := -2) hx hb dX10_resolvedOut_54 (by decide) ?_
        obtain ⟨xx18, exx18, hE⟩ := j_bd hG17 hE
        try dsimp only at hE
        refine jc_vv [.int (-2 : Int32)] [] jc jw hA ho (by decide) rfl (c_X10_mark hY ho (M := mm15) exx18) sd_X10_279 rfl hl.1 (j_hR hRf hRl rfl rfl) (Nat.le_of_ble_eq_true rfl) dX10_resolvedOut_56 (fun H locs jw => ?_)
        exact J17 xx18  H locs ls hE jw (lv_sub hl [0, 1, 2] rfl)
    have B14 : ∀ (H : Heap) (locs : List Loc), JW D Y ty ad A s.heap mm4 H locs → (p2 = 0 ∨ p2 = (2 : Int32) ∨ p2 = (-1 : Int32)) → W p l e R s m args below meth c H locs 0 0 Q (F0 m 24 ls []) := by
      intro H locs jw hcc
      rw [if_pos hcc] at hE
      refine lv_aload_n hx hb dX10_resolvedOut_24 rfl (lv_at hl 0 rfl) ?_
      refine lv_aload_n hx hb dX10_resolvedOut_25 rfl (lv_at hl 0 rfl) ?_
      refine jg_10_41 jc jw ho wd_6_100 dX10_resolvedOut_26 ?_
      have k9 := j_sub hY ho 41 (f := 100) rfl (by decide) (by decide) (by decide)
      refine lv_aload_n hx hb dX10_resolvedOut_29 rfl (lv_at hl 0 rfl) ?_
      refine jg_10_47 jc jw ho wd_6_106 dX10_resolvedOut_30 ?_
      have k10 := j_sub hY ho 47 (f := 100) rfl (by decide) (by decide) (by decide)
      refine lv_iload_n hx hb dX10_resolvedOut_33 rfl (lv_at hl 1 rfl) ?_
      refine lv_iconst (v := 3) hx hb dX10_resolvedOut_34 (by decide) ?_
      refine lv_iadd hx hb dX10_resolvedOut_35 ?_
      rcases Classical.em (j_g (p1 + (3 : Int32)) (j_ln Y (j_rf Y o 47))) with g11 | g11
      case inr => rw [if_neg g11] at hE; exact absurd hE (hG8 _)
      rw [if_pos g11] at hE
      refine jr_iald jc jw k10 (j_g_in g11) dX10_resolvedOut_36 ?_
      refine lv_aload_n hx hb dX10_resolvedOut_37 rfl (lv_at hl 0 rfl) ?_
      refine jg_10_47 jc jw ho wd_6_106 dX10_resolvedOut_38 ?_
      refine lv_iload_n hx hb dX10_resolvedOut_41 rfl (lv_at hl 1 rfl) ?_
      refine lv_iconst (v := 4) hx hb dX10_resolvedOut_42 (by decide) ?_
      refine lv_iadd hx hb dX10_resolvedOut_43 ?_
      rcases Classical.em (j_g (p1 + (4 : Int32)) (j_ln Y (j_rf Y o 47))) with g12 | g12
      case inr => rw [if_neg g12] at hE; exact absurd hE (hG8 _)
      rw [if_pos g12] at hE
      refine jr_iald jc jw k10 (j_g_in g12) dX10_resolvedOut_44 ?_
      obtain ⟨xx13, exx13, hE⟩ := j_bd hG8 hE
      try dsimp only at hE
      refine jc_vv [.ref (ad (j_rf Y o 41)), .int (mm4 (j_rf Y o 47) (p1 + (3 : Int32)).toNatClampNeg), .int (mm4 (j_rf Y o 47) (p1 + (4 : Int32)).toNatClampNeg)] [] jc jw hA ho (by decide) rfl (c_X10_goesOut hY ho k9 (M := mm4) exx13) sd_X10_282 rfl hl.1 (j_hR hRf hRl rfl rfl) (Nat.le_of_ble_eq_true rfl) dX10_resolvedOut_45 (fun H locs jw => ?_)
      exact J8 xx13  H locs ls hE jw (lv_sub hl [0, 1, 2] rfl)
    refine lv_if_eq (tgt := 24) hx hb dX10_resolvedOut_11 (by decide) (fun c5 => B14 _ _ jw (Or.inl c5)) (fun c5 => ?_)
    refine lv_iload_n hx hb dX10_resolvedOut_14 rfl (lv_at hl 2 rfl) ?_
    refine lv_iconst (v := 2) hx hb dX10_resolvedOut_15 (by decide) ?_
    refine lv_icmp_eq (tgt := 24) hx hb dX10_resolvedOut_16 (by decide) (fun c6 => B14 _ _ jw (Or.inr (Or.inl c6))) (fun c6 => ?_)
    refine lv_iload_n hx hb dX10_resolvedOut_19 rfl (lv_at hl 2 rfl) ?_
    refine lv_iconst (v := -1) hx hb dX10_resolvedOut_20 (by decide) ?_
    refine lv_icmp_ne (tgt := 48) hx hb dX10_resolvedOut_21 (by decide) (fun c7 => ?_) (fun c7 => B14 _ _ jw (Or.inr (Or.inr c7)))
    rw [if_neg (fun hq => hq.elim (fun hq => (j_abs c5 hq)) (fun hq => hq.elim (fun hq => (j_abs c6 hq)) (fun hq => (j_abs c7 hq))))] at hE
    exact J8 mm4  H locs ls hE jw (lv_sub hl [0, 1, 2] rfl)
  refine lv_icmp_ne (tgt := 10) hx hb dX10_resolvedOut_2 (by decide) (fun c1 => ?_) (fun c1 => ?_)
  · rw [if_neg c1] at hE
    exact J2 M  s.heap [] ls hE jw (lv_sub hl [0, 1, 2] rfl)
  · rw [if_pos c1] at hE
    refine lv_aload_n hx hb dX10_resolvedOut_5 rfl (lv_at hl 0 rfl) ?_
    refine lv_iconst (v := -1) hx hb dX10_resolvedOut_6 (by decide) ?_
    obtain ⟨xx3, exx3, hE⟩ := j_bd hG2 hE
    try dsimp only at hE
    refine jc_vv [.int (-1 : Int32)] [] jc jw hA ho (by decide) rfl (c_X10_mark hY ho (M := M) exx3) sd_X10_279 rfl hl.1 (j_hR hRf hRl rfl rfl) (Nat.le_of_ble_eq_true rfl) dX10_resolvedOut_7 (fun H locs jw => ?_)
    exact J2 xx3  H locs ls hE jw (lv_sub hl [0, 1, 2] rfl)
def lp_X10_tellMerged_1 (Y : JY) (o : Nat) (n : Nat) (vv3 : Int32) (vv4 : Int32) (mm5 : JM) : Option (JM) := match n with
  | 0 => none
  | n + 1 => if (mm5 o 48) ≤ vv4 then (some mm5) else (lt_ ((7 : Int32) * vv4) fun vv7 => if j_g vv7 (j_ln Y (j_rf Y o 47)) then ((if (mm5 (j_rf Y o 47) vv7.toNatClampNeg) = (4 : Int32) then (if j_g vv3 (j_ln Y (j_rf Y o 49)) then ((s_X10_resolvedOut Y mm5 o vv7 (mm5 (j_rf Y o 49) vv3.toNatClampNeg)).bind fun xx14 => lt_ (vv3 + (1 : Int32)) fun vv15 => some (vv15, xx14)) else none) else (if j_g vv7 (j_ln Y (j_rf Y o 47)) then (if (mm5 (j_rf Y o 47) vv7.toNatClampNeg) = (2 : Int32) then (if j_g (vv7 + (5 : Int32)) (j_ln Y (j_rf Y o 47)) then (if j_g (vv7 + (6 : Int32)) (j_ln Y (j_rf Y o 47)) then ((s_X10_goesOut Y mm5 o (j_rf Y o 43) (mm5 (j_rf Y o 47) (vv7 + (5 : Int32)).toNatClampNeg) (mm5 (j_rf Y o 47) (vv7 + (6 : Int32)).toNatClampNeg)).bind fun xx21 => some (vv3, xx21)) else none) else none) else (if j_g (vv7 + (3 : Int32)) (j_ln Y (j_rf Y o 47)) then (if j_g (vv7 + (4 : Int32)) (j_ln Y (j_rf Y o 47)) then ((s_X10_goesOut Y mm5 o (j_rf Y o 41) (mm5 (j_rf Y o 47) (vv7 + (3 : Int32)).toNatClampNeg) (mm5 (j_rf Y o 47) (vv7 + (4 : Int32)).toNatClampNeg)).bind fun xx25 => some (vv3, xx25)) else none) else none)) else none)).bind fun xx29 => lt_ (vv4 + (1 : Int32)) fun vv28 => lp_X10_tellMerged_1 Y o n xx29.1 vv28 xx29.2) else none)
def s_X10_tellMerged (Y : JY) (M : JM) (o : Nat) : Option (JM) := lt_ (j_up M o 18 (0 : Int32)) fun mm1 => (lp_X10_tellMerged_1 Y o j_fuel (0 : Int32) (0 : Int32) mm1).bind fun xx30 => some xx30
set_option maxRecDepth 100000 in
set_option maxHeartbeats 4000000 in
theorem c_X10_tellMerged {D : va_G} {Y : JY} {ty : Nat → ClassId} {ad : Nat → Nat} {sz : Nat} {l : Launch} {M : JM} (hY : j_ok Y) {o : Nat} (ho : j_kd Y o = 10) {r : JM} (hE : s_X10_tellMerged Y M o = some r) : JMv D Y ty ad sz l yX10_tellMerged cX10_tellMerged 4 2 46 [.ref (ad o)] M r := by
  refine j_ofV hY (by decide +kernel) (Nat.le_of_ble_eq_true rfl) (fun p e s m below meth c args R Q A hRf hRl hA jc jw kr ls hl => ?_)
  have hx := jc.1
  have hb := jc.2.1
  have hl : lv_has ls 4 [(0, .ref (ad o))] := hl
  unfold s_X10_tellMerged at hE
  obtain ⟨G0, eG0, hG0, hE⟩ := j_F0o hE
  refine lv_aload_n hx hb dX10_tellMerged_0 rfl (lv_at hl 0 rfl) ?_
  refine lv_iconst (v := 0) hx hb dX10_tellMerged_1 (by decide) ?_
  refine js_10_18 jc jw ho wd_6_77 dX10_tellMerged_2 (fun H locs jw => ?_)
  obtain ⟨mm1, emm1, hE⟩ := j_lv hE
  rw [← emm1] at jw
  try dsimp only at hE
  refine lv_iconst (v := 0) hx hb dX10_tellMerged_5 (by decide) ?_
  refine lv_istore_n (lv' := [(1, .int (0 : Int32)), (0, .ref (ad o))]) hx hb dX10_tellMerged_6 rfl hl (by decide) rfl (fun ls hl => ?_)
  refine lv_iconst (v := 0) hx hb dX10_tellMerged_7 (by decide) ?_
  refine lv_istore_n (lv' := [(2, .int (0 : Int32)), (1, .int (0 : Int32)), (0, .ref (ad o))]) hx hb dX10_tellMerged_8 rfl hl (by decide) rfl (fun ls hl => ?_)
  obtain ⟨G2, eG2, hG2, hE⟩ := j_ctxB hG0 hE
  have LP2 : ∀ (n : Nat) (vv3 : Int32) (vv4 : Int32) (mm5 : JM) (H : Heap) (locs : List Loc) (ls : Array Slot), G2 (lp_X10_tellMerged_1 Y o n vv3 vv4 mm5) = some r → JW D Y ty ad A s.heap mm5 H locs → lv_has ls 4 [(2, .int vv4), (1, .int vv3), (0, .ref (ad o))] → W p l e R s m args below meth c H locs 0 0 Q (F0 m 9 ls []) := by
    intro n
    induction n with
    | zero => intro vv3 vv4 mm5 H locs ls hE jw hl; exact absurd hE (hG2 _)
    | succ n ih =>
      intro vv3 vv4 mm5 H locs ls hE jw hl
      rw [lp_X10_tellMerged_1] at hE
      refine lv_iload_n hx hb dX10_tellMerged_9 rfl (lv_at hl 0 rfl) ?_
      refine lv_aload_n hx hb dX10_tellMerged_10 rfl (lv_at hl 2 rfl) ?_
      refine jg_10_48 jc jw ho wd_6_107 dX10_tellMerged_11 ?_
      refine lv_icmp_ge (tgt := 117) hx hb dX10_tellMerged_14 (by decide) (fun c6 => ?_) (fun c6 => ?_)
      · rw [if_pos c6] at hE
        replace hE := j_popB eG2 hE
        try dsimp only at hE
        exact kr _ _ _ _ _ (Option.some.inj (j_ret eG0 hE)) jw dX10_tellMerged_117
      · rw [if_neg c6] at hE
        refine lv_bipush (v := 7) hx hb dX10_tellMerged_17 (by decide) ?_
        refine lv_iload_n hx hb dX10_tellMerged_19 rfl (lv_at hl 0 rfl) ?_
        refine lv_imul hx hb dX10_tellMerged_20 ?_
        refine lv_topi (fun vv7 evv7 => ?_)
        replace hE := j_lu hE evv7
        try dsimp only at hE
        refine lv_istore_n (lv' := [(3, .int vv7), (2, .int vv4), (1, .int vv3), (0, .ref (ad o))]) hx hb dX10_tellMerged_21 rfl hl (by decide) rfl (fun ls hl => ?_)
        refine lv_aload_n hx hb dX10_tellMerged_22 rfl (lv_at hl 3 rfl) ?_
        refine jg_10_47 jc jw ho wd_6_106 dX10_tellMerged_23 ?_
        have k8 := j_sub hY ho 47 (f := 100) rfl (by decide) (by decide) (by decide)
        refine lv_iload_n hx hb dX10_tellMerged_26 rfl (lv_at hl 0 rfl) ?_
        rcases Classical.em (j_g vv7 (j_ln Y (j_rf Y o 47))) with g9 | g9
        case inr => rw [if_neg g9] at hE; exact absurd hE (hG2 _)
        rw [if_pos g9] at hE
        refine jr_iald jc jw k8 (j_g_in g9) dX10_tellMerged_27 ?_
        refine lv_iconst (v := 4) hx hb dX10_tellMerged_28 (by decide) ?_
        obtain ⟨G11, eG11, hG11, hE⟩ := j_ctxB hG2 hE
        have J11 : ∀ (vv26 : Int32) (mm27 : JM)  (H : Heap) (locs : List Loc) (ls : Array Slot), G11 (some (vv26, mm27)) = some r → JW D Y ty ad A s.heap mm27 H locs → lv_has ls 4 [(2, .int vv4), (1, .int vv26), (0, .ref (ad o))] → W p l e R s m args below meth c H locs 0 0 Q (F0 m 111 ls []) := by
          intro vv26 mm27  H locs ls hE jw hl
          replace hE := j_popB eG11 hE
          try dsimp only at hE
          obtain ⟨vv28, evv28, hE⟩ := j_lv hE
          try dsimp only at hE
          refine lv_iinc (v := vv28) (lv' := [(2, .int vv28), (1, .int vv26), (0, .ref (ad o))]) hx hb dX10_tellMerged_111 hl (k := 0) rfl (by rw [evv28]; rfl) (by decide) rfl (fun ls hl => ?_)
          refine lv_goto (tgt := 9) hx hb dX10_tellMerged_114 (by decide) ?_
          exact ih vv26 vv28 mm27 H locs ls hE jw (lv_sub hl [0, 1, 2] rfl)
        refine lv_icmp_ne (tgt := 49) hx hb dX10_tellMerged_29 (by decide) (fun c10 => ?_) (fun c10 => ?_)
        · rw [if_neg c10] at hE
          refine lv_aload_n hx hb dX10_tellMerged_49 rfl (lv_at hl 3 rfl) ?_
          refine jg_10_47 jc jw ho wd_6_106 dX10_tellMerged_50 ?_
          refine lv_iload_n hx hb dX10_tellMerged_53 rfl (lv_at hl 0 rfl) ?_
          rcases Classical.em (j_g vv7 (j_ln Y (j_rf Y o 47))) with g16 | g16
          case inr => rw [if_neg g16] at hE; exact absurd hE (hG11 _)
          rw [if_pos g16] at hE
          refine jr_iald jc jw k8 (j_g_in g16) dX10_tellMerged_54 ?_
          refine lv_iconst (v := 2) hx hb dX10_tellMerged_55 (by decide) ?_
          refine lv_icmp_ne (tgt := 87) hx hb dX10_tellMerged_56 (by decide) (fun c17 => ?_) (fun c17 => ?_)
          · rw [if_neg c17] at hE
            refine lv_aload_n hx hb dX10_tellMerged_87 rfl (lv_at hl 3 rfl) ?_
            refine lv_aload_n hx hb dX10_tellMerged_88 rfl (lv_at hl 3 rfl) ?_
            refine jg_10_41 jc jw ho wd_6_100 dX10_tellMerged_89 ?_
            have k22 := j_sub hY ho 41 (f := 100) rfl (by decide) (by decide) (by decide)
            refine lv_aload_n hx hb dX10_tellMerged_92 rfl (lv_at hl 3 rfl) ?_
            refine jg_10_47 jc jw ho wd_6_106 dX10_tellMerged_93 ?_
            refine lv_iload_n hx hb dX10_tellMerged_96 rfl (lv_at hl 0 rfl) ?_
            refine lv_iconst (v := 3) hx hb dX10_tellMerged_97 (by decide) ?_
            refine lv_iadd hx hb dX10_tellMerged_98 ?_
            rcases Classical.em (j_g (vv7 + (3 : Int32)) (j_ln Y (j_rf Y o 47))) with g23 | g23
            case inr => rw [if_neg g23] at hE; exact absurd hE (hG11 _)
            rw [if_pos g23] at hE
            refine jr_iald jc jw k8 (j_g_in g23) dX10_tellMerged_99 ?_
            refine lv_aload_n hx hb dX10_tellMerged_100 rfl (lv_at hl 3 rfl) ?_
            refine jg_10_47 jc jw ho wd_6_106 dX10_tellMerged_101 ?_
            refine lv_iload_n hx hb dX10_tellMerged_104 rfl (lv_at hl 0 rfl) ?_
            refine lv_iconst (v := 4) hx hb dX10_tellMerged_105 (by decide) ?_
            refine lv_iadd hx hb dX10_tellMerged_106 ?_
            rcases Classical.em (j_g (vv7 + (4 : Int32)) (j_ln Y (j_rf Y o 47))) with g24 | g24
            case inr => rw [if_neg g24] at hE; exact absurd hE (hG11 _)
            rw [if_pos g24] at hE
            refine jr_iald jc jw k8 (j_g_in g24) dX10_tellMerged_107 ?_
            obtain ⟨xx25, exx25, hE⟩ := j_bd hG11 hE
            try dsimp only at hE
            refine jc_vv [.ref (ad (j_rf Y o 41)), .int (mm5 (j_rf Y o 47) (vv7 + (3 : Int32)).toNatClampNeg), .int (mm5 (j_rf Y o 47) (vv7 + (4 : Int32)).toNatClampNeg)] [] jc jw hA ho (by decide) rfl (c_X10_goesOut hY ho k22 (M := mm5) exx25) sd_X10_282 rfl hl.1 (j_hR hRf hRl rfl rfl) (Nat.le_of_ble_eq_true rfl) dX10_tellMerged_108 (fun H locs jw => ?_)
            exact J11 vv3 xx25  H locs ls hE jw (lv_sub hl [1, 2, 3] rfl)
          · rw [if_pos c17] at hE
            refine lv_aload_n hx hb dX10_tellMerged_59 rfl (lv_at hl 3 rfl) ?_
            refine lv_aload_n hx hb dX10_tellMerged_60 rfl (lv_at hl 3 rfl) ?_
            refine jg_10_43 jc jw ho wd_6_102 dX10_tellMerged_61 ?_
            have k18 := j_sub hY ho 43 (f := 100) rfl (by decide) (by decide) (by decide)
            refine lv_aload_n hx hb dX10_tellMerged_64 rfl (lv_at hl 3 rfl) ?_
            refine jg_10_47 jc jw ho wd_6_106 dX10_tellMerged_65 ?_
            refine lv_iload_n hx hb dX10_tellMerged_68 rfl (lv_at hl 0 rfl) ?_
            refine lv_iconst (v := 5) hx hb dX10_tellMerged_69 (by decide) ?_
            refine lv_iadd hx hb dX10_tellMerged_70 ?_
            rcases Classical.em (j_g (vv7 + (5 : Int32)) (j_ln Y (j_rf Y o 47))) with g19 | g19
            case inr => rw [if_neg g19] at hE; exact absurd hE (hG11 _)
            rw [if_pos g19] at hE
            refine jr_iald jc jw k8 (j_g_in g19) dX10_tellMerged_71 ?_
            refine lv_aload_n hx hb dX10_tellMerged_72 rfl (lv_at hl 3 rfl) ?_
            refine jg_10_47 jc jw ho wd_6_106 dX10_tellMerged_73 ?_
            refine lv_iload_n hx hb dX10_tellMerged_76 rfl (lv_at hl 0 rfl) ?_
            refine lv_bipush (v := 6) hx hb dX10_tellMerged_77 (by decide) ?_
            refine lv_iadd hx hb dX10_tellMerged_79 ?_
            rcases Classical.em (j_g (vv7 + (6 : Int32)) (j_ln Y (j_rf Y o 47))) with g20 | g20
            case inr => rw [if_neg g20] at hE; exact absurd hE (hG11 _)
            rw [if_pos g20] at hE
            refine jr_iald jc jw k8 (j_g_in g20) dX10_tellMerged_80 ?_
            obtain ⟨xx21, exx21, hE⟩ := j_bd hG11 hE
            try dsimp only at hE
            refine jc_vv [.ref (ad (j_rf Y o 43)), .int (mm5 (j_rf Y o 47) (vv7 + (5 : Int32)).toNatClampNeg), .int (mm5 (j_rf Y o 47) (vv7 + (6 : Int32)).toNatClampNeg)] [] jc jw hA ho (by decide) rfl (c_X10_goesOut hY ho k18 (M := mm5) exx21) sd_X10_282 rfl hl.1 (j_hR hRf hRl rfl rfl) (Nat.le_of_ble_eq_true rfl) dX10_tellMerged_81 (fun H locs jw => ?_)
            refine lv_goto (tgt := 111) hx hb dX10_tellMerged_84 (by decide) ?_
            exact J11 vv3 xx21  H locs ls hE jw (lv_sub hl [1, 2, 3] rfl)
        · rw [if_pos c10] at hE
          refine lv_aload_n hx hb dX10_tellMerged_32 rfl (lv_at hl 3 rfl) ?_
          refine lv_iload_n hx hb dX10_tellMerged_33 rfl (lv_at hl 0 rfl) ?_
          refine lv_aload_n hx hb dX10_tellMerged_34 rfl (lv_at hl 3 rfl) ?_
          refine jg_10_49 jc jw ho wd_6_108 dX10_tellMerged_35 ?_
          have k12 := j_sub hY ho 49 (f := 100) rfl (by decide) (by decide) (by decide)
          refine lv_iload_n hx hb dX10_tellMerged_38 rfl (lv_at hl 2 rfl) ?_
          rcases Classical.em (j_g vv3 (j_ln Y (j_rf Y o 49))) with g13 | g13
          case inr => rw [if_neg g13] at hE; exact absurd hE (hG11 _)
          rw [if_pos g13] at hE
          refine jr_iald jc jw k12 (j_g_in g13) dX10_tellMerged_39 ?_
          obtain ⟨xx14, exx14, hE⟩ := j_bd hG11 hE
          try dsimp only at hE
          refine jc_vv [.int vv7, .int (mm5 (j_rf Y o 49) vv3.toNatClampNeg)] [] jc jw hA ho (by decide) rfl (c_X10_resolvedOut hY ho (M := mm5) exx14) sd_X10_286 rfl hl.1 (j_hR hRf hRl rfl rfl) (Nat.le_of_ble_eq_true rfl) dX10_tellMerged_40 (fun H locs jw => ?_)
          obtain ⟨vv15, evv15, hE⟩ := j_lv hE
          try dsimp only at hE
          refine lv_iinc (v := vv15) (lv' := [(1, .int vv15), (3, .int vv7), (2, .int vv4), (0, .ref (ad o))]) hx hb dX10_tellMerged_43 hl (k := 2) rfl (by rw [evv15]; rfl) (by decide) rfl (fun ls hl => ?_)
          refine lv_goto (tgt := 111) hx hb dX10_tellMerged_46 (by decide) ?_
          exact J11 vv15 xx14  H locs ls hE jw (lv_sub hl [2, 0, 3] rfl)
  exact LP2 j_fuel (0 : Int32) (0 : Int32) mm1 H locs ls hE jw (lv_sub hl [0, 1, 2] rfl)

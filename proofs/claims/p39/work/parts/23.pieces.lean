def sg_1 (Y : JY) (M : JM) (L : Nat) (xs : Nat → Int32)  : Option (Int32 × Int32 × Int32 × JM) := (s_X9_save Y M 0).bind fun xx1 => lt_ xx1.1 fun vv2 => (s_X9_compare Y xx1.2 0 (1 : Int32) (2 : Int32)).bind fun xx3 => lt_ ((1 : Int32) + ((sc_at L xs (9 : Int32)) &&& (3 : Int32))) fun vv4 => (s_X9_findMoves Y xx3.2 0 vv4).bind fun xx5 => lt_ xx5.1 fun vv6 => some (vv2, vv4, vv6, xx5.2)
set_option maxRecDepth 100000 in
set_option maxHeartbeats 4000000 in
theorem g_1 {p : Program} {l : Launch} {e : Env} {R : Room} {s : State} {m : MethodId} {args : Array Value} {below : List Frame} {meth : Method} {c : Code} {H : Heap} {locs : List Loc} {cells slots : Nat} {Q : State → Prop} {ls : Array Slot} {D : va_G} {Y : JY} {ty : Nat → ClassId} {ad : Nat → Nat} {A : Nat → Prop} {M : JM} {L b : Nat} {xs : Nat → Int32}  (jc : JC D Y ty p s m args c cL_law 18 jlw) (hA : ∀ q, s.heap.size ≤ q → A q) (hX : va_X b L xs s s.heap) (hbl : b < s.heap.size) (hbA : ¬ A b) (hL : L ≤ 260) (k0 : j_kd Y 0 = 9) (hRf : 7 ≤ R.frames) (hRl : 184 ≤ R.locals) (hRc : cells + 0 ≤ R.cells) (hRs : slots + 0 ≤ R.slots) {r : Int32 × Int32 × Int32 × JM} (hE : sg_1 Y M L xs  = some r) (jw : JW D Y ty ad A s.heap M H locs) (hl : lv_has ls 18 [(0, .ref b), (1, .ref (ad 0))]) (kk : ∀ (o2 : Int32) (o3 : Int32) (o4 : Int32) (N : JM) (H : Heap) (locs : List Loc) (ls : Array Slot), (o2, o3, o4, N) = r → JW D Y ty ad A s.heap N H locs → lv_has ls 18 [(0, .ref b), (1, .ref (ad 0)), (2, .int o2), (3, .int o3), (4, .int o4)] → W p l e R s m args below meth c H locs cells slots Q (F0 m 35 ls [])) : W p l e R s m args below meth c H locs cells slots Q (F0 m 5 ls []) := by
  have hx := jc.1
  have hb := jc.2.1
  have hY := jc.2.2.2.2.2.2
  unfold sg_1 at hE
  obtain ⟨G0, eG0, hG0, hE⟩ := j_F0o hE
  refine lv_aload_n hx hb dL_law_5 rfl (lv_at hl 1 rfl) ?_
  obtain ⟨xx1, exx1, hE⟩ := j_bd hG0 hE
  try dsimp only at hE
  refine jc_vi [] [] jc jw hA k0 (by decide) rfl (c_X9_save hY k0 (M := M) exx1) sd_L_55 rfl hl.1 (j_hRG hRf hRl (by omega) (by omega) rfl rfl) (Nat.le_of_ble_eq_true rfl) dL_law_6 (fun H locs jw => ?_)
  refine lv_topi (fun vv2 evv2 => ?_)
  replace hE := j_lu hE evv2
  try dsimp only at hE
  refine lv_istore_n (lv' := [(2, .int vv2), (0, .ref b), (1, .ref (ad 0))]) hx hb dL_law_9 rfl hl (by decide) rfl (fun ls hl => ?_)
  refine lv_aload_n hx hb dL_law_10 rfl (lv_at hl 2 rfl) ?_
  refine lv_iconst (v := 1) hx hb dL_law_11 (by decide) ?_
  refine lv_iconst (v := 2) hx hb dL_law_12 (by decide) ?_
  obtain ⟨xx3, exx3, hE⟩ := j_bd hG0 hE
  try dsimp only at hE
  refine jc_vi [.int (1 : Int32), .int (2 : Int32)] [] jc jw hA k0 (by decide) rfl (c_X9_compare hY k0 (M := xx1.2) exx3) sd_L_59 rfl hl.1 (j_hRG hRf hRl (by omega) (by omega) rfl rfl) (Nat.le_of_ble_eq_true rfl) dL_law_13 (fun H locs jw => ?_)
  refine lv_pop hx hb dL_law_16 rfl ?_
  refine lv_iconst (v := 1) hx hb dL_law_17 (by decide) ?_
  refine lv_aload_n hx hb dL_law_18 rfl (lv_at hl 1 rfl) ?_
  refine lv_bipush (v := 9) hx hb dL_law_19 (by decide) ?_
  refine jl_at (k := (9 : Int32)) [.int (1 : Int32)] jc hX hbl hbA jw hA hL (by decide) sd_L_10 hl.1 (j_hRG hRf hRl (by omega) (by omega) rfl rfl) (Nat.le_of_ble_eq_true rfl) dL_law_21 (fun H locs jw => ?_)
  refine lv_iconst (v := 3) hx hb dL_law_24 (by decide) ?_
  refine lv_iand hx hb dL_law_25 ?_
  refine lv_iadd hx hb dL_law_26 ?_
  refine lv_topi (fun vv4 evv4 => ?_)
  replace hE := j_lu hE evv4
  try dsimp only at hE
  refine lv_istore_n (lv' := [(3, .int vv4), (2, .int vv2), (0, .ref b), (1, .ref (ad 0))]) hx hb dL_law_27 rfl hl (by decide) rfl (fun ls hl => ?_)
  refine lv_aload_n hx hb dL_law_28 rfl (lv_at hl 3 rfl) ?_
  refine lv_iload_n hx hb dL_law_29 rfl (lv_at hl 0 rfl) ?_
  obtain ⟨xx5, exx5, hE⟩ := j_bd hG0 hE
  try dsimp only at hE
  refine jc_vi [.int vv4] [] jc jw hA k0 (by decide) rfl (c_X9_findMoves hY k0 (M := xx3.2) exx5) sd_L_62 rfl hl.1 (j_hRG hRf hRl (by omega) (by omega) rfl rfl) (Nat.le_of_ble_eq_true rfl) dL_law_30 (fun H locs jw => ?_)
  refine lv_topi (fun vv6 evv6 => ?_)
  replace hE := j_lu hE evv6
  try dsimp only at hE
  refine lv_istore (lv' := [(4, .int vv6), (3, .int vv4), (2, .int vv2), (0, .ref b), (1, .ref (ad 0))]) hx hb dL_law_33 hl (by decide) rfl (fun ls hl => ?_)
  exact kk vv2 vv4 vv6 xx5.2 H locs ls (Option.some.inj (j_ret eG0 hE)) jw (lv_sub hl [3, 4, 2, 1, 0] rfl)
def lp_g2_2 (Y : JY) (xx7 : Int32) (xx5 : Int32) (xx6 : Int32) (n : Nat) (vv14 : Int32) (mm15 : JM) : Option (JM) := match n with
  | 0 => none
  | n + 1 => if xx7 ≤ vv14 then (some mm15) else ((s_X9_line Y mm15 0 (1 : Int32) (xx5 + vv14)).bind fun xx17 => (s_X9_line Y mm15 0 (2 : Int32) (xx6 + vv14)).bind fun xx18 => if xx17 = xx18 then ((s_X9_partner Y mm15 0 (xx5 + vv14)).bind fun xx20 => if xx20 = (-1 : Int32) then (if j_g (xx5 + vv14) (j_ln Y 140) then (if (mm15 140 (xx5 + vv14).toNatClampNeg) = 0 then (if j_g (xx6 + vv14) (j_ln Y 141) then (if (mm15 141 (xx6 + vv14).toNatClampNeg) = 0 then (if j_g (xx5 + vv14) (j_ln Y 140) then (lt_ (j_up mm15 140 (xx5 + vv14).toNatClampNeg (1 : Int32)) fun mm27 => if j_g (xx6 + vv14) (j_ln Y 141) then (lt_ (j_up mm27 141 (xx6 + vv14).toNatClampNeg (1 : Int32)) fun mm29 => lt_ (vv14 + (1 : Int32)) fun vv30 => lp_g2_2 Y xx7 xx5 xx6 n vv30 mm29) else none) else none) else (none)) else none) else (none)) else none) else (none)) else (none))
def lp_g2_3 (Y : JY)  (n : Nat) (vv40 : Int32) (mm41 : JM) : Option (JM) := match n with
  | 0 => none
  | n + 1 => if (3 : Int32) ≤ vv40 then (some mm41) else ((s_X9_length Y mm41 0 (3 : Int32)).bind fun xx43 => if (24 : Int32) ≤ xx43 then (some mm41) else ((s_X9_insert Y mm41 0 (3 : Int32) (0 : Int32) (25 : Int32)).bind fun xx45 => lt_ (vv40 + (1 : Int32)) fun vv46 => lp_g2_3 Y n vv46 xx45.2))
def lp_g2_1 (Y : JY) (a4 : Int32) (a3 : Int32) (n : Nat) (vv2 : Int32) (mm3 : JM) : Option (JM) := match n with
  | 0 => none
  | n + 1 => if a4 ≤ vv2 then (some mm3) else ((s_X9_move Y mm3 0 vv2 (0 : Int32)).bind fun xx5 => (s_X9_move Y mm3 0 vv2 (1 : Int32)).bind fun xx6 => (s_X9_move Y mm3 0 vv2 (2 : Int32)).bind fun xx7 => if xx7 < a3 then (none) else ((if vv2 ≤ 0 then (some ()) else ((s_X9_move Y mm3 0 (vv2 - (1 : Int32)) (2 : Int32)).bind fun xx11 => if xx7 ≤ xx11 then (some ()) else (none))).bind fun _ => (lp_g2_2 Y xx7 xx5 xx6 j_fuel (0 : Int32) mm3).bind fun xx33 => lt_ (vv2 + (1 : Int32)) fun vv32 => lp_g2_1 Y a4 a3 n vv32 xx33))
def sg_2 (Y : JY) (M : JM) (L : Nat) (xs : Nat → Int32) (a2 : Int32) (a3 : Int32) (a4 : Int32) : Option (Int32 × Int32 × JM) := (lp_g2_1 Y a4 a3 j_fuel (0 : Int32) M).bind fun xx50 => (s_X9_makePatch Y xx50 0 ((1 : Int32) + (((sc_at L xs (9 : Int32)) >>> ((2 : Int32) &&& 31)) &&& (1 : Int32)))).bind fun xx36 => lt_ xx36.1 fun vv37 => (s_X9_copy Y xx36.2 0 (1 : Int32) (3 : Int32)).bind fun xx38 => (lp_g2_3 Y j_fuel (0 : Int32) xx38.2).bind fun xx49 => (s_X9_length Y xx49 0 (3 : Int32)).bind fun xx48 => some (vv37, xx48, xx49)
set_option maxRecDepth 100000 in
set_option maxHeartbeats 4000000 in
theorem g_2 {p : Program} {l : Launch} {e : Env} {R : Room} {s : State} {m : MethodId} {args : Array Value} {below : List Frame} {meth : Method} {c : Code} {H : Heap} {locs : List Loc} {cells slots : Nat} {Q : State → Prop} {ls : Array Slot} {D : va_G} {Y : JY} {ty : Nat → ClassId} {ad : Nat → Nat} {A : Nat → Prop} {M : JM} {L b : Nat} {xs : Nat → Int32} {a2 : Int32} {a3 : Int32} {a4 : Int32} (jc : JC D Y ty p s m args c cL_law 18 jlw) (hA : ∀ q, s.heap.size ≤ q → A q) (hX : va_X b L xs s s.heap) (hbl : b < s.heap.size) (hbA : ¬ A b) (hL : L ≤ 260) (k0 : j_kd Y 0 = 9) (k140 : j_kd Y 140 = 101) (k141 : j_kd Y 141 = 101) (hRf : 6 ≤ R.frames) (hRl : 134 ≤ R.locals) (hRc : cells + 0 ≤ R.cells) (hRs : slots + 0 ≤ R.slots) {r : Int32 × Int32 × JM} (hE : sg_2 Y M L xs a2 a3 a4 = some r) (jw : JW D Y ty ad A s.heap M H locs) (hl : lv_has ls 18 [(0, .ref b), (1, .ref (ad 0)), (2, .int a2), (3, .int a3), (4, .int a4), (5, .ref (ad 140)), (6, .ref (ad 141))]) (kk : ∀ (o7 : Int32) (o8 : Int32) (N : JM) (H : Heap) (locs : List Loc) (ls : Array Slot), (o7, o8, N) = r → JW D Y ty ad A s.heap N H locs → lv_has ls 18 [(1, .ref (ad 0)), (2, .int a2), (7, .int o7), (8, .int o8)] → W p l e R s m args below meth c H locs cells slots Q (F0 m 277 ls [])) : W p l e R s m args below meth c H locs cells slots Q (F0 m 47 ls []) := by
  have hx := jc.1
  have hb := jc.2.1
  have hY := jc.2.2.2.2.2.2
  unfold sg_2 at hE
  obtain ⟨G0, eG0, hG0, hE⟩ := j_F0o hE
  refine lv_iconst (v := 0) hx hb dL_law_47 (by decide) ?_
  refine lv_istore (lv' := [(7, .int (0 : Int32)), (0, .ref b), (1, .ref (ad 0)), (2, .int a2), (3, .int a3), (4, .int a4), (5, .ref (ad 140)), (6, .ref (ad 141))]) hx hb dL_law_48 hl (by decide) rfl (fun ls hl => ?_)
  obtain ⟨G1, eG1, hG1, hE⟩ := j_ctxB hG0 hE
  have E1_211 : ∀ (mm35 : JM)  (H : Heap) (locs : List Loc) (ls : Array Slot), G1 (some mm35) = some r → JW D Y ty ad A s.heap mm35 H locs → lv_has ls 18 [(0, .ref b), (1, .ref (ad 0)), (2, .int a2)] → W p l e R s m args below meth c H locs cells slots Q (F0 m 211 ls []) := by
    intro mm35  H locs ls hE jw hl
    replace hE := j_popB eG1 hE
    try dsimp only at hE
    refine lv_aload_n hx hb dL_law_211 rfl (lv_at hl 1 rfl) ?_
    refine lv_iconst (v := 1) hx hb dL_law_212 (by decide) ?_
    refine lv_aload_n hx hb dL_law_213 rfl (lv_at hl 0 rfl) ?_
    refine lv_bipush (v := 9) hx hb dL_law_214 (by decide) ?_
    refine jl_at (k := (9 : Int32)) [.int (1 : Int32), .ref (ad 0)] jc hX hbl hbA jw hA hL (by decide) sd_L_10 hl.1 (j_hRG hRf hRl (by omega) (by omega) rfl rfl) (Nat.le_of_ble_eq_true rfl) dL_law_216 (fun H locs jw => ?_)
    refine lv_iconst (v := 2) hx hb dL_law_219 (by decide) ?_
    refine lv_ishr hx hb dL_law_220 ?_
    refine lv_iconst (v := 1) hx hb dL_law_221 (by decide) ?_
    refine lv_iand hx hb dL_law_222 ?_
    refine lv_iadd hx hb dL_law_223 ?_
    obtain ⟨xx36, exx36, hE⟩ := j_bd hG0 hE
    try dsimp only at hE
    refine jc_vi [.int ((1 : Int32) + (((sc_at L xs (9 : Int32)) >>> ((2 : Int32) &&& 31)) &&& (1 : Int32)))] [] jc jw hA k0 (by decide) rfl (c_X9_makePatch hY k0 (M := mm35) exx36) sd_L_74 rfl hl.1 (j_hRG hRf hRl (by omega) (by omega) rfl rfl) (Nat.le_of_ble_eq_true rfl) dL_law_224 (fun H locs jw => ?_)
    refine lv_topi (fun vv37 evv37 => ?_)
    replace hE := j_lu hE evv37
    try dsimp only at hE
    refine lv_istore (lv' := [(7, .int vv37), (0, .ref b), (1, .ref (ad 0)), (2, .int a2)]) hx hb dL_law_227 hl (by decide) rfl (fun ls hl => ?_)
    refine lv_aload_n hx hb dL_law_229 rfl (lv_at hl 2 rfl) ?_
    refine lv_iconst (v := 1) hx hb dL_law_230 (by decide) ?_
    refine lv_iconst (v := 3) hx hb dL_law_231 (by decide) ?_
    obtain ⟨xx38, exx38, hE⟩ := j_bd hG0 hE
    try dsimp only at hE
    refine jc_vi [.int (1 : Int32), .int (3 : Int32)] [] jc jw hA k0 (by decide) rfl (c_X9_copy hY k0 (M := xx36.2) exx38) sd_L_20 rfl hl.1 (j_hRG hRf hRl (by omega) (by omega) rfl rfl) (Nat.le_of_ble_eq_true rfl) dL_law_232 (fun H locs jw => ?_)
    refine lv_pop hx hb dL_law_235 rfl ?_
    refine lv_iconst (v := 0) hx hb dL_law_236 (by decide) ?_
    refine lv_istore (lv' := [(8, .int (0 : Int32)), (7, .int vv37), (0, .ref b), (1, .ref (ad 0)), (2, .int a2)]) hx hb dL_law_237 hl (by decide) rfl (fun ls hl => ?_)
    obtain ⟨G39, eG39, hG39, hE⟩ := j_ctxB hG0 hE
    have E39_270 : ∀ (mm47 : JM)  (H : Heap) (locs : List Loc) (ls : Array Slot), G39 (some mm47) = some r → JW D Y ty ad A s.heap mm47 H locs → lv_has ls 18 [(7, .int vv37), (1, .ref (ad 0)), (2, .int a2)] → W p l e R s m args below meth c H locs cells slots Q (F0 m 270 ls []) := by
      intro mm47  H locs ls hE jw hl
      replace hE := j_popB eG39 hE
      try dsimp only at hE
      refine lv_aload_n hx hb dL_law_270 rfl (lv_at hl 1 rfl) ?_
      refine lv_iconst (v := 3) hx hb dL_law_271 (by decide) ?_
      obtain ⟨xx48, exx48, hE⟩ := j_bd hG0 hE
      try dsimp only at hE
      refine jc_vi [.int (3 : Int32)] [] jc jw hA k0 (by decide) rfl (c_X9_length hY k0 (M := mm47) exx48) sd_L_23 rfl hl.1 (j_hRG hRf hRl (by omega) (by omega) rfl rfl) (Nat.le_of_ble_eq_true rfl) dL_law_272 (fun H locs jw => ?_)
      refine lv_istore (lv' := [(8, .int xx48), (7, .int vv37), (1, .ref (ad 0)), (2, .int a2)]) hx hb dL_law_275 hl (by decide) rfl (fun ls hl => ?_)
      exact kk vv37 xx48 mm47 H locs ls (Option.some.inj (j_ret eG0 hE)) jw (lv_sub hl [2, 3, 1, 0] rfl)
    have LP39 : ∀ (n : Nat) (vv40 : Int32) (mm41 : JM) (H : Heap) (locs : List Loc) (ls : Array Slot), G39 (lp_g2_3 Y n vv40 mm41) = some r → JW D Y ty ad A s.heap mm41 H locs → lv_has ls 18 [(8, .int vv40), (7, .int vv37), (1, .ref (ad 0)), (2, .int a2)] → W p l e R s m args below meth c H locs cells slots Q (F0 m 239 ls []) := by
      intro n
      induction n with
      | zero => intro vv40 mm41 H locs ls hE jw hl; exact absurd hE (hG39 _)
      | succ n ih =>
        intro vv40 mm41 H locs ls hE jw hl
        rw [lp_g2_3] at hE
        refine lv_iload hx hb dL_law_239 (lv_at hl 0 rfl) ?_
        refine lv_iconst (v := 3) hx hb dL_law_241 (by decide) ?_
        refine lv_icmp_ge (tgt := 270) hx hb dL_law_242 (by decide) (fun c42 => ?_) (fun c42 => ?_)
        · rw [if_pos c42] at hE
          exact E39_270 mm41  H locs ls hE jw (lv_sub hl [1, 2, 3] rfl)
        · rw [if_neg c42] at hE
          refine lv_aload_n hx hb dL_law_245 rfl (lv_at hl 2 rfl) ?_
          refine lv_iconst (v := 3) hx hb dL_law_246 (by decide) ?_
          obtain ⟨xx43, exx43, hE⟩ := j_bd hG39 hE
          try dsimp only at hE
          refine jc_vi [.int (3 : Int32)] [] jc jw hA k0 (by decide) rfl (c_X9_length hY k0 (M := mm41) exx43) sd_L_23 rfl hl.1 (j_hRG hRf hRl (by omega) (by omega) rfl rfl) (Nat.le_of_ble_eq_true rfl) dL_law_247 (fun H locs jw => ?_)
          refine lv_bipush (v := 24) hx hb dL_law_250 (by decide) ?_
          refine lv_icmp_ge (tgt := 270) hx hb dL_law_252 (by decide) (fun c44 => ?_) (fun c44 => ?_)
          · rw [if_pos c44] at hE
            exact E39_270 mm41  H locs ls hE jw (lv_sub hl [1, 2, 3] rfl)
          · rw [if_neg c44] at hE
            refine lv_aload_n hx hb dL_law_255 rfl (lv_at hl 2 rfl) ?_
            refine lv_iconst (v := 3) hx hb dL_law_256 (by decide) ?_
            refine lv_iconst (v := 0) hx hb dL_law_257 (by decide) ?_
            refine lv_bipush (v := 25) hx hb dL_law_258 (by decide) ?_
            obtain ⟨xx45, exx45, hE⟩ := j_bd hG39 hE
            try dsimp only at hE
            refine jc_vi [.int (3 : Int32), .int (0 : Int32), .int (25 : Int32)] [] jc jw hA k0 (by decide) rfl (c_X9_insert hY k0 (M := mm41) exx45) sd_L_30 rfl hl.1 (j_hRG hRf hRl (by omega) (by omega) rfl rfl) (Nat.le_of_ble_eq_true rfl) dL_law_260 (fun H locs jw => ?_)
            refine lv_pop hx hb dL_law_263 rfl ?_
            obtain ⟨vv46, evv46, hE⟩ := j_lv hE
            try dsimp only at hE
            refine lv_iinc (v := vv46) (lv' := [(8, .int vv46), (7, .int vv37), (1, .ref (ad 0)), (2, .int a2)]) hx hb dL_law_264 hl (k := 0) rfl (by rw [evv46]; rfl) (by decide) rfl (fun ls hl => ?_)
            refine lv_goto (tgt := 239) hx hb dL_law_267 (by decide) ?_
            exact ih vv46 xx45.2 H locs ls hE jw (lv_sub hl [0, 1, 2, 3] rfl)
    exact LP39 j_fuel (0 : Int32) xx38.2 H locs ls hE jw (lv_sub hl [0, 1, 3, 4] rfl)
  have LP1 : ∀ (n : Nat) (vv2 : Int32) (mm3 : JM) (H : Heap) (locs : List Loc) (ls : Array Slot), G1 (lp_g2_1 Y a4 a3 n vv2 mm3) = some r → JW D Y ty ad A s.heap mm3 H locs → lv_has ls 18 [(7, .int vv2), (0, .ref b), (1, .ref (ad 0)), (2, .int a2), (3, .int a3), (4, .int a4), (5, .ref (ad 140)), (6, .ref (ad 141))] → W p l e R s m args below meth c H locs cells slots Q (F0 m 50 ls []) := by
    intro n
    induction n with
    | zero => intro vv2 mm3 H locs ls hE jw hl; exact absurd hE (hG1 _)
    | succ n ih =>
      intro vv2 mm3 H locs ls hE jw hl
      rw [lp_g2_1] at hE
      refine lv_iload hx hb dL_law_50 (lv_at hl 0 rfl) ?_
      refine lv_iload hx hb dL_law_52 (lv_at hl 5 rfl) ?_
      refine lv_icmp_ge (tgt := 211) hx hb dL_law_54 (by decide) (fun c4 => ?_) (fun c4 => ?_)
      · rw [if_pos c4] at hE
        exact E1_211 mm3  H locs ls hE jw (lv_sub hl [1, 2, 3] rfl)
      · rw [if_neg c4] at hE
        refine lv_aload_n hx hb dL_law_57 rfl (lv_at hl 2 rfl) ?_
        refine lv_iload hx hb dL_law_58 (lv_at hl 0 rfl) ?_
        refine lv_iconst (v := 0) hx hb dL_law_60 (by decide) ?_
        obtain ⟨xx5, exx5, hE⟩ := j_bd hG1 hE
        try dsimp only at hE
        refine jc_vi [.int vv2, .int (0 : Int32)] [] jc jw hA k0 (by decide) rfl (c_X9_move hY k0 (M := mm3) exx5) sd_L_65 rfl hl.1 (j_hRG hRf hRl (by omega) (by omega) rfl rfl) (Nat.le_of_ble_eq_true rfl) dL_law_61 (fun H locs jw => ?_)
        refine lv_istore (lv' := [(8, .int xx5), (7, .int vv2), (0, .ref b), (1, .ref (ad 0)), (2, .int a2), (3, .int a3), (4, .int a4), (5, .ref (ad 140)), (6, .ref (ad 141))]) hx hb dL_law_64 hl (by decide) rfl (fun ls hl => ?_)
        refine lv_aload_n hx hb dL_law_66 rfl (lv_at hl 3 rfl) ?_
        refine lv_iload hx hb dL_law_67 (lv_at hl 1 rfl) ?_
        refine lv_iconst (v := 1) hx hb dL_law_69 (by decide) ?_
        obtain ⟨xx6, exx6, hE⟩ := j_bd hG1 hE
        try dsimp only at hE
        refine jc_vi [.int vv2, .int (1 : Int32)] [] jc jw hA k0 (by decide) rfl (c_X9_move hY k0 (M := mm3) exx6) sd_L_65 rfl hl.1 (j_hRG hRf hRl (by omega) (by omega) rfl rfl) (Nat.le_of_ble_eq_true rfl) dL_law_70 (fun H locs jw => ?_)
        refine lv_istore (lv' := [(9, .int xx6), (8, .int xx5), (7, .int vv2), (0, .ref b), (1, .ref (ad 0)), (2, .int a2), (3, .int a3), (4, .int a4), (5, .ref (ad 140)), (6, .ref (ad 141))]) hx hb dL_law_73 hl (by decide) rfl (fun ls hl => ?_)
        refine lv_aload_n hx hb dL_law_75 rfl (lv_at hl 4 rfl) ?_
        refine lv_iload hx hb dL_law_76 (lv_at hl 2 rfl) ?_
        refine lv_iconst (v := 2) hx hb dL_law_78 (by decide) ?_
        obtain ⟨xx7, exx7, hE⟩ := j_bd hG1 hE
        try dsimp only at hE
        refine jc_vi [.int vv2, .int (2 : Int32)] [] jc jw hA k0 (by decide) rfl (c_X9_move hY k0 (M := mm3) exx7) sd_L_65 rfl hl.1 (j_hRG hRf hRl (by omega) (by omega) rfl rfl) (Nat.le_of_ble_eq_true rfl) dL_law_79 (fun H locs jw => ?_)
        refine lv_istore (lv' := [(10, .int xx7), (9, .int xx6), (8, .int xx5), (7, .int vv2), (0, .ref b), (1, .ref (ad 0)), (2, .int a2), (3, .int a3), (4, .int a4), (5, .ref (ad 140)), (6, .ref (ad 141))]) hx hb dL_law_82 hl (by decide) rfl (fun ls hl => ?_)
        refine lv_iload hx hb dL_law_84 (lv_at hl 0 rfl) ?_
        refine lv_iload_n hx hb dL_law_86 rfl (lv_at hl 7 rfl) ?_
        refine lv_icmp_lt (tgt := 109) hx hb dL_law_87 (by decide) (fun c8 => ?_) (fun c8 => ?_)
        · rw [if_pos c8] at hE
          refine lv_iconst (v := 0) hx hb dL_law_109 (by decide) ?_
          exact absurd hE (hG1 _)
        · rw [if_neg c8] at hE
          refine lv_iload hx hb dL_law_90 (lv_at hl 3 rfl) ?_
          obtain ⟨G10, eG10, hG10, hE⟩ := j_ctxB hG1 hE
          have J10 : ∀   (H : Heap) (locs : List Loc) (ls : Array Slot), G10 (some ()) = some r → JW D Y ty ad A s.heap mm3 H locs → lv_has ls 18 [(10, .int xx7), (9, .int xx6), (8, .int xx5), (7, .int vv2), (0, .ref b), (1, .ref (ad 0)), (2, .int a2), (3, .int a3), (4, .int a4), (5, .ref (ad 140)), (6, .ref (ad 141))] → W p l e R s m args below meth c H locs cells slots Q (F0 m 111 ls []) := by
            intro   H locs ls hE jw hl
            replace hE := j_popB eG10 hE
            try dsimp only at hE
            refine lv_iconst (v := 0) hx hb dL_law_111 (by decide) ?_
            refine lv_istore (lv' := [(11, .int (0 : Int32)), (10, .int xx7), (9, .int xx6), (8, .int xx5), (7, .int vv2), (0, .ref b), (1, .ref (ad 0)), (2, .int a2), (3, .int a3), (4, .int a4), (5, .ref (ad 140)), (6, .ref (ad 141))]) hx hb dL_law_112 hl (by decide) rfl (fun ls hl => ?_)
            obtain ⟨G13, eG13, hG13, hE⟩ := j_ctxB hG1 hE
            have E13_205 : ∀ (mm31 : JM)  (H : Heap) (locs : List Loc) (ls : Array Slot), G13 (some mm31) = some r → JW D Y ty ad A s.heap mm31 H locs → lv_has ls 18 [(7, .int vv2), (0, .ref b), (1, .ref (ad 0)), (2, .int a2), (3, .int a3), (4, .int a4), (5, .ref (ad 140)), (6, .ref (ad 141))] → W p l e R s m args below meth c H locs cells slots Q (F0 m 205 ls []) := by
              intro mm31  H locs ls hE jw hl
              replace hE := j_popB eG13 hE
              try dsimp only at hE
              obtain ⟨vv32, evv32, hE⟩ := j_lv hE
              try dsimp only at hE
              refine lv_iinc (v := vv32) (lv' := [(7, .int vv32), (0, .ref b), (1, .ref (ad 0)), (2, .int a2), (3, .int a3), (4, .int a4), (5, .ref (ad 140)), (6, .ref (ad 141))]) hx hb dL_law_205 hl (k := 0) rfl (by rw [evv32]; rfl) (by decide) rfl (fun ls hl => ?_)
              refine lv_goto (tgt := 50) hx hb dL_law_208 (by decide) ?_
              exact ih vv32 mm31 H locs ls hE jw (lv_sub hl [0, 1, 2, 3, 4, 5, 6, 7] rfl)
            have LP13 : ∀ (n : Nat) (vv14 : Int32) (mm15 : JM) (H : Heap) (locs : List Loc) (ls : Array Slot), G13 (lp_g2_2 Y xx7 xx5 xx6 n vv14 mm15) = some r → JW D Y ty ad A s.heap mm15 H locs → lv_has ls 18 [(11, .int vv14), (10, .int xx7), (9, .int xx6), (8, .int xx5), (7, .int vv2), (0, .ref b), (1, .ref (ad 0)), (2, .int a2), (3, .int a3), (4, .int a4), (5, .ref (ad 140)), (6, .ref (ad 141))] → W p l e R s m args below meth c H locs cells slots Q (F0 m 114 ls []) := by
              intro n
              induction n with
              | zero => intro vv14 mm15 H locs ls hE jw hl; exact absurd hE (hG13 _)
              | succ n ih =>
                intro vv14 mm15 H locs ls hE jw hl
                rw [lp_g2_2] at hE
                refine lv_iload hx hb dL_law_114 (lv_at hl 0 rfl) ?_
                refine lv_iload hx hb dL_law_116 (lv_at hl 1 rfl) ?_
                refine lv_icmp_ge (tgt := 205) hx hb dL_law_118 (by decide) (fun c16 => ?_) (fun c16 => ?_)
                · rw [if_pos c16] at hE
                  exact E13_205 mm15  H locs ls hE jw (lv_sub hl [4, 5, 6, 7, 8, 9, 10, 11] rfl)
                · rw [if_neg c16] at hE
                  refine lv_aload_n hx hb dL_law_121 rfl (lv_at hl 6 rfl) ?_
                  refine lv_iconst (v := 1) hx hb dL_law_122 (by decide) ?_
                  refine lv_iload hx hb dL_law_123 (lv_at hl 3 rfl) ?_
                  refine lv_iload hx hb dL_law_125 (lv_at hl 0 rfl) ?_
                  refine lv_iadd hx hb dL_law_127 ?_
                  obtain ⟨xx17, exx17, hE⟩ := j_bd hG13 hE
                  try dsimp only at hE
                  refine jc_vi [.int (1 : Int32), .int (xx5 + vv14)] [] jc jw hA k0 (by decide) rfl (c_X9_line hY k0 (M := mm15) exx17) sd_L_68 rfl hl.1 (j_hRG hRf hRl (by omega) (by omega) rfl rfl) (Nat.le_of_ble_eq_true rfl) dL_law_128 (fun H locs jw => ?_)
                  refine lv_aload_n hx hb dL_law_131 rfl (lv_at hl 6 rfl) ?_
                  refine lv_iconst (v := 2) hx hb dL_law_132 (by decide) ?_
                  refine lv_iload hx hb dL_law_133 (lv_at hl 2 rfl) ?_
                  refine lv_iload hx hb dL_law_135 (lv_at hl 0 rfl) ?_
                  refine lv_iadd hx hb dL_law_137 ?_
                  obtain ⟨xx18, exx18, hE⟩ := j_bd hG13 hE
                  try dsimp only at hE
                  refine jc_vi [.int (2 : Int32), .int (xx6 + vv14)] [.int xx17] jc jw hA k0 (by decide) rfl (c_X9_line hY k0 (M := mm15) exx18) sd_L_68 rfl hl.1 (j_hRG hRf hRl (by omega) (by omega) rfl rfl) (Nat.le_of_ble_eq_true rfl) dL_law_138 (fun H locs jw => ?_)
                  refine lv_icmp_ne (tgt := 179) hx hb dL_law_141 (by decide) (fun c19 => ?_) (fun c19 => ?_)
                  · rw [if_neg c19] at hE
                    refine lv_iconst (v := 0) hx hb dL_law_179 (by decide) ?_
                    exact absurd hE (hG13 _)
                  · rw [if_pos c19] at hE
                    refine lv_aload_n hx hb dL_law_144 rfl (lv_at hl 6 rfl) ?_
                    refine lv_iload hx hb dL_law_145 (lv_at hl 3 rfl) ?_
                    refine lv_iload hx hb dL_law_147 (lv_at hl 0 rfl) ?_
                    refine lv_iadd hx hb dL_law_149 ?_
                    obtain ⟨xx20, exx20, hE⟩ := j_bd hG13 hE
                    try dsimp only at hE
                    refine jc_vi [.int (xx5 + vv14)] [] jc jw hA k0 (by decide) rfl (c_X9_partner hY k0 (M := mm15) exx20) sd_L_71 rfl hl.1 (j_hRG hRf hRl (by omega) (by omega) rfl rfl) (Nat.le_of_ble_eq_true rfl) dL_law_150 (fun H locs jw => ?_)
                    refine lv_iconst (v := -1) hx hb dL_law_153 (by decide) ?_
                    refine lv_icmp_ne (tgt := 179) hx hb dL_law_154 (by decide) (fun c21 => ?_) (fun c21 => ?_)
                    · rw [if_neg c21] at hE
                      refine lv_iconst (v := 0) hx hb dL_law_179 (by decide) ?_
                      exact absurd hE (hG13 _)
                    · rw [if_pos c21] at hE
                      refine lv_aload hx hb dL_law_157 (lv_at hl 10 rfl) ?_
                      refine lv_iload hx hb dL_law_159 (lv_at hl 3 rfl) ?_
                      refine lv_iload hx hb dL_law_161 (lv_at hl 0 rfl) ?_
                      refine lv_iadd hx hb dL_law_163 ?_
                      rcases Classical.em (j_g (xx5 + vv14) (j_ln Y 140)) with g22 | g22
                      case inr => rw [if_neg g22] at hE; exact absurd hE (hG13 _)
                      rw [if_pos g22] at hE
                      refine jr_zald jc jw k140 (j_g_in g22) dL_law_164 ?_
                      refine lv_if_ne (tgt := 179) hx hb dL_law_165 (by decide) (fun c23 => ?_) (fun c23 => ?_)
                      · rw [if_neg c23] at hE
                        refine lv_iconst (v := 0) hx hb dL_law_179 (by decide) ?_
                        exact absurd hE (hG13 _)
                      · rw [if_pos c23] at hE
                        refine lv_aload hx hb dL_law_168 (lv_at hl 11 rfl) ?_
                        refine lv_iload hx hb dL_law_170 (lv_at hl 2 rfl) ?_
                        refine lv_iload hx hb dL_law_172 (lv_at hl 0 rfl) ?_
                        refine lv_iadd hx hb dL_law_174 ?_
                        rcases Classical.em (j_g (xx6 + vv14) (j_ln Y 141)) with g24 | g24
                        case inr => rw [if_neg g24] at hE; exact absurd hE (hG13 _)
                        rw [if_pos g24] at hE
                        refine jr_zald jc jw k141 (j_g_in g24) dL_law_175 ?_
                        refine lv_if_eq (tgt := 181) hx hb dL_law_176 (by decide) (fun c25 => ?_) (fun c25 => ?_)
                        · rw [if_pos c25] at hE
                          refine lv_aload hx hb dL_law_181 (lv_at hl 10 rfl) ?_
                          refine lv_iload hx hb dL_law_183 (lv_at hl 3 rfl) ?_
                          refine lv_iload hx hb dL_law_185 (lv_at hl 0 rfl) ?_
                          refine lv_iadd hx hb dL_law_187 ?_
                          refine lv_iconst (v := 1) hx hb dL_law_188 (by decide) ?_
                          rcases Classical.em (j_g (xx5 + vv14) (j_ln Y 140)) with g26 | g26
                          case inr => rw [if_neg g26] at hE; exact absurd hE (hG13 _)
                          rw [if_pos g26] at hE
                          refine jr_zast jc jw k140 rfl (j_g_in g26) dL_law_189 (fun H locs jw => ?_)
                          obtain ⟨mm27, emm27, hE⟩ := j_lv hE
                          rw [← emm27] at jw
                          try dsimp only at hE
                          refine lv_aload hx hb dL_law_190 (lv_at hl 11 rfl) ?_
                          refine lv_iload hx hb dL_law_192 (lv_at hl 2 rfl) ?_
                          refine lv_iload hx hb dL_law_194 (lv_at hl 0 rfl) ?_
                          refine lv_iadd hx hb dL_law_196 ?_
                          refine lv_iconst (v := 1) hx hb dL_law_197 (by decide) ?_
                          rcases Classical.em (j_g (xx6 + vv14) (j_ln Y 141)) with g28 | g28
                          case inr => rw [if_neg g28] at hE; exact absurd hE (hG13 _)
                          rw [if_pos g28] at hE
                          refine jr_zast jc jw k141 rfl (j_g_in g28) dL_law_198 (fun H locs jw => ?_)
                          obtain ⟨mm29, emm29, hE⟩ := j_lv hE
                          rw [← emm29] at jw
                          try dsimp only at hE
                          obtain ⟨vv30, evv30, hE⟩ := j_lv hE
                          try dsimp only at hE
                          refine lv_iinc (v := vv30) (lv' := [(11, .int vv30), (10, .int xx7), (9, .int xx6), (8, .int xx5), (7, .int vv2), (0, .ref b), (1, .ref (ad 0)), (2, .int a2), (3, .int a3), (4, .int a4), (5, .ref (ad 140)), (6, .ref (ad 141))]) hx hb dL_law_199 hl (k := 0) rfl (by rw [evv30]; rfl) (by decide) rfl (fun ls hl => ?_)
                          refine lv_goto (tgt := 114) hx hb dL_law_202 (by decide) ?_
                          exact ih vv30 mm29 H locs ls hE jw (lv_sub hl [0, 1, 2, 3, 4, 5, 6, 7, 8, 9, 10, 11] rfl)
                        · rw [if_neg c25] at hE
                          refine lv_iconst (v := 0) hx hb dL_law_179 (by decide) ?_
                          exact absurd hE (hG13 _)
            exact LP13 j_fuel (0 : Int32) mm3 H locs ls hE jw (lv_sub hl [0, 1, 2, 3, 4, 5, 6, 7, 8, 9, 10, 11] rfl)
          refine lv_if_le (tgt := 111) hx hb dL_law_92 (by decide) (fun c9 => ?_) (fun c9 => ?_)
          · rw [if_pos c9] at hE
            exact J10   H locs ls hE jw (lv_sub hl [0, 1, 2, 3, 4, 5, 6, 7, 8, 9, 10] rfl)
          · rw [if_neg c9] at hE
            refine lv_iload hx hb dL_law_95 (lv_at hl 0 rfl) ?_
            refine lv_aload_n hx hb dL_law_97 rfl (lv_at hl 5 rfl) ?_
            refine lv_iload hx hb dL_law_98 (lv_at hl 3 rfl) ?_
            refine lv_iconst (v := 1) hx hb dL_law_100 (by decide) ?_
            refine lv_isub hx hb dL_law_101 ?_
            refine lv_iconst (v := 2) hx hb dL_law_102 (by decide) ?_
            obtain ⟨xx11, exx11, hE⟩ := j_bd hG10 hE
            try dsimp only at hE
            refine jc_vi [.int (vv2 - (1 : Int32)), .int (2 : Int32)] [.int xx7] jc jw hA k0 (by decide) rfl (c_X9_move hY k0 (M := mm3) exx11) sd_L_65 rfl hl.1 (j_hRG hRf hRl (by omega) (by omega) rfl rfl) (Nat.le_of_ble_eq_true rfl) dL_law_103 (fun H locs jw => ?_)
            refine lv_icmp_le (tgt := 111) hx hb dL_law_106 (by decide) (fun c12 => ?_) (fun c12 => ?_)
            · rw [if_pos c12] at hE
              exact J10   H locs ls hE jw (lv_sub hl [0, 1, 2, 3, 4, 5, 6, 7, 8, 9, 10] rfl)
            · rw [if_neg c12] at hE
              refine lv_iconst (v := 0) hx hb dL_law_109 (by decide) ?_
              exact absurd hE (hG10 _)
  exact LP1 j_fuel (0 : Int32) M H locs ls hE jw (lv_sub hl [0, 1, 2, 3, 4, 5, 6, 7] rfl)
def lp_g3_3 (Y : JY) (xx10 : (Int32 × JM)) (vv18 : Int32) (xx20 : Int32) (n : Nat) (vv31 : Int32) : Option (Unit) := match n with
  | 0 => none
  | n + 1 => (s_X9_hunk Y xx10.2 0 vv18 (1 : Int32)).bind fun xx32 => if xx32 ≤ vv31 then (some ()) else (if j_g (xx20 + vv31) (j_ln Y 142) then ((s_X9_hunk Y xx10.2 0 vv18 (0 : Int32)).bind fun xx35 => (s_X9_line Y xx10.2 0 (1 : Int32) (xx35 + vv31)).bind fun xx36 => if (xx10.2 142 (xx20 + vv31).toNatClampNeg) = xx36 then (lt_ (vv31 + (1 : Int32)) fun vv38 => lp_g3_3 Y xx10 vv18 xx20 n vv38) else (none)) else none)
def lp_g3_2 (Y : JY) (a7 : Int32) (xx10 : (Int32 × JM)) (n : Nat) (vv15 : Int32) (vv16 : Int32) (vv17 : Int32) (vv18 : Int32) : Option (Int32 × Int32) := match n with
  | 0 => none
  | n + 1 => if a7 ≤ vv18 then (some (vv16, vv17)) else ((s_X9_outcome Y xx10.2 0 vv18 (0 : Int32)).bind fun xx20 => (if xx20 = (-1 : Int32) then (some (vv15, vv16, vv17)) else ((s_X9_hunk Y xx10.2 0 vv18 (0 : Int32)).bind fun xx23 => lt_ (xx20 - xx23) fun vv24 => (s_X9_outcome Y xx10.2 0 vv18 (1 : Int32)).bind fun xx25 => if ¬ (xx25 = 0) ∨ xx20 < vv15 then (none) else (if ¬ (vv17 = 0) ∨ (if 0 ≤ vv24 then vv24 else 0 - vv24) ≤ (10 : Int32) then ((lp_g3_3 Y xx10 vv18 xx20 j_fuel (0 : Int32)).bind fun xx45 => (s_X9_hunk Y xx10.2 0 vv18 (1 : Int32)).bind fun xx39 => lt_ (xx20 + xx39) fun vv40 => (s_X9_hunk Y xx10.2 0 vv18 (3 : Int32)).bind fun xx41 => (s_X9_hunk Y xx10.2 0 vv18 (1 : Int32)).bind fun xx42 => lt_ (vv16 + (xx41 - xx42)) fun vv43 => lt_ (vv17 + (1 : Int32)) fun vv44 => some (vv40, vv43, vv44)) else (none)))).bind fun xx52 => lt_ (vv18 + (1 : Int32)) fun vv51 => lp_g3_2 Y a7 xx10 n xx52.1 xx52.2.1 xx52.2.2 vv51)
def lp_g3_4 (Y : JY) (a8 : Int32) (mm61 : JM) (n : Nat) (vv65 : Int32) : Option (Unit) := match n with
  | 0 => none
  | n + 1 => if a8 ≤ vv65 then (some ()) else ((s_X9_line Y mm61 0 (3 : Int32) vv65).bind fun xx67 => if j_g vv65 (j_ln Y 142) then (if xx67 = (mm61 142 vv65.toNatClampNeg) then (lt_ (vv65 + (1 : Int32)) fun vv70 => lp_g3_4 Y a8 mm61 n vv70) else (none)) else none)
def lp_g3_1 (Y : JY) (a8 : Int32) (n : Nat) (vv2 : Int32) (mm3 : JM) : Option (JM) := match n with
  | 0 => none
  | n + 1 => if a8 ≤ vv2 then (some mm3) else ((s_X9_line Y mm3 0 (3 : Int32) vv2).bind fun xx5 => if j_g vv2 (j_ln Y 142) then (lt_ (j_up mm3 142 vv2.toNatClampNeg xx5) fun mm7 => lt_ (vv2 + (1 : Int32)) fun vv8 => lp_g3_1 Y a8 n vv8 mm7) else none)
def sg_3 (Y : JY) (M : JM) (L : Nat) (xs : Nat → Int32) (a2 : Int32) (a7 : Int32) (a8 : Int32) : Option (JM) := (lp_g3_1 Y a8 j_fuel (0 : Int32) M).bind fun xx73 => (s_L_applied Y xx73 0).bind fun xx10 => lt_ xx10.1 fun vv11 => (if vv11 < 0 then (some xx10.2) else ((lp_g3_2 Y a7 xx10 j_fuel (0 : Int32) (0 : Int32) (0 : Int32) (0 : Int32)).bind fun xx60 => if xx60.2 = vv11 then ((s_X9_length Y xx10.2 0 (3 : Int32)).bind fun xx56 => if xx56 = (a8 + xx60.1) then ((s_X9_undo Y xx10.2 0).bind fun xx58 => if xx58.1 = (3 : Int32) then (some xx58.2) else (none)) else (none)) else (none))).bind fun xx72 => (s_X9_length Y xx72 0 (3 : Int32)).bind fun xx62 => if xx62 = a8 then ((lp_g3_4 Y a8 xx72 j_fuel (0 : Int32)).bind fun xx71 => some xx72) else (none)
set_option maxRecDepth 100000 in
set_option maxHeartbeats 4000000 in
theorem g_3 {p : Program} {l : Launch} {e : Env} {R : Room} {s : State} {m : MethodId} {args : Array Value} {below : List Frame} {meth : Method} {c : Code} {H : Heap} {locs : List Loc} {cells slots : Nat} {Q : State → Prop} {ls : Array Slot} {D : va_G} {Y : JY} {ty : Nat → ClassId} {ad : Nat → Nat} {A : Nat → Prop} {M : JM} {L b : Nat} {xs : Nat → Int32} {a2 : Int32} {a7 : Int32} {a8 : Int32} (hl9 : l.stackTraces = false) (jc : JC D Y ty p s m args c cL_law 18 jlw) (jx : JX A s s.heap) (hA : ∀ q, s.heap.size ≤ q → A q) (hX : va_X b L xs s s.heap) (hbl : b < s.heap.size) (hbA : ¬ A b) (hL : L ≤ 260) (k0 : j_kd Y 0 = 9) (k142 : j_kd Y 142 = 100) (hRf : 8 ≤ R.frames) (hRl : 199 ≤ R.locals) (hRc : cells + 1 ≤ R.cells) (hRs : slots + 6 ≤ R.slots) {r : JM} (hE : sg_3 Y M L xs a2 a7 a8 = some r) (jw : JW D Y ty ad A s.heap M H locs) (hl : lv_has ls 18 [(1, .ref (ad 0)), (2, .int a2), (7, .int a7), (8, .int a8), (9, .ref (ad 142))]) (kk : ∀ (N : JM) (H : Heap) (locs : List Loc) (ls : Array Slot), N = r → JW D Y ty ad A s.heap N H locs → lv_has ls 18 [(1, .ref (ad 0)), (2, .int a2), (8, .int a8)] → W p l e R s m args below meth c H locs (cells + 1) (slots + 6) Q (F0 m 570 ls [])) : W p l e R s m args below meth c H locs cells slots Q (F0 m 283 ls []) := by
  have hx := jc.1
  have hb := jc.2.1
  have hY := jc.2.2.2.2.2.2
  unfold sg_3 at hE
  obtain ⟨G0, eG0, hG0, hE⟩ := j_F0o hE
  refine lv_iconst (v := 0) hx hb dL_law_283 (by decide) ?_
  refine lv_istore (lv' := [(10, .int (0 : Int32)), (1, .ref (ad 0)), (2, .int a2), (7, .int a7), (8, .int a8), (9, .ref (ad 142))]) hx hb dL_law_284 hl (by decide) rfl (fun ls hl => ?_)
  obtain ⟨G1, eG1, hG1, hE⟩ := j_ctxB hG0 hE
  have E1_311 : ∀ (mm9 : JM)  (H : Heap) (locs : List Loc) (ls : Array Slot), G1 (some mm9) = some r → JW D Y ty ad A s.heap mm9 H locs → lv_has ls 18 [(1, .ref (ad 0)), (2, .int a2), (7, .int a7), (8, .int a8), (9, .ref (ad 142))] → W p l e R s m args below meth c H locs cells slots Q (F0 m 311 ls []) := by
    intro mm9  H locs ls hE jw hl
    replace hE := j_popB eG1 hE
    try dsimp only at hE
    refine lv_aload_n hx hb dL_law_311 rfl (lv_at hl 0 rfl) ?_
    obtain ⟨xx10, exx10, hE⟩ := j_bd hG0 hE
    try dsimp only at hE
    refine jw_call [.ref (ad 0)] [] jc jx jw hA (c_L_applied hl9 hY k0 (M := mm9) exx10) sd_W_77 rfl hl.1 (j_hRH hRf hRl hRc hRs rfl rfl) (Nat.le_of_ble_eq_true rfl) dL_law_312 (fun H locs jw => ?_)
    refine lv_topi (fun vv11 evv11 => ?_)
    replace hE := j_lu hE evv11
    try dsimp only at hE
    refine lv_istore (lv' := [(10, .int vv11), (1, .ref (ad 0)), (2, .int a2), (7, .int a7), (8, .int a8), (9, .ref (ad 142))]) hx hb dL_law_315 hl (by decide) rfl (fun ls hl => ?_)
    refine lv_iload hx hb dL_law_317 (lv_at hl 0 rfl) ?_
    obtain ⟨G13, eG13, hG13, hE⟩ := j_ctxB hG0 hE
    have J13 : ∀ (mm61 : JM)  (H : Heap) (locs : List Loc) (ls : Array Slot), G13 (some mm61) = some r → JW D Y ty ad A s.heap mm61 H locs → lv_has ls 18 [(1, .ref (ad 0)), (2, .int a2), (8, .int a8), (9, .ref (ad 142))] → W p l e R s m args below meth c H locs (cells + 1) (slots + 6) Q (F0 m 525 ls []) := by
      intro mm61  H locs ls hE jw hl
      replace hE := j_popB eG13 hE
      try dsimp only at hE
      refine lv_aload_n hx hb dL_law_525 rfl (lv_at hl 0 rfl) ?_
      refine lv_iconst (v := 3) hx hb dL_law_526 (by decide) ?_
      obtain ⟨xx62, exx62, hE⟩ := j_bd hG0 hE
      try dsimp only at hE
      refine jc_vi [.int (3 : Int32)] [] jc jw hA k0 (by decide) rfl (c_X9_length hY k0 (M := mm61) exx62) sd_L_23 rfl hl.1 (j_hRG hRf hRl (by omega) (by omega) rfl rfl) (Nat.le_of_ble_eq_true rfl) dL_law_527 (fun H locs jw => ?_)
      refine lv_iload hx hb dL_law_530 (lv_at hl 2 rfl) ?_
      refine lv_icmp_eq (tgt := 537) hx hb dL_law_532 (by decide) (fun c63 => ?_) (fun c63 => ?_)
      · rw [if_pos c63] at hE
        refine lv_iconst (v := 0) hx hb dL_law_537 (by decide) ?_
        refine lv_istore (lv' := [(11, .int (0 : Int32)), (1, .ref (ad 0)), (2, .int a2), (8, .int a8), (9, .ref (ad 142))]) hx hb dL_law_538 hl (by decide) rfl (fun ls hl => ?_)
        obtain ⟨G64, eG64, hG64, hE⟩ := j_ctxB hG0 hE
        have E64_570 : ∀   (H : Heap) (locs : List Loc) (ls : Array Slot), G64 (some ()) = some r → JW D Y ty ad A s.heap mm61 H locs → lv_has ls 18 [(1, .ref (ad 0)), (2, .int a2), (8, .int a8), (9, .ref (ad 142))] → W p l e R s m args below meth c H locs (cells + 1) (slots + 6) Q (F0 m 570 ls []) := by
          intro   H locs ls hE jw hl
          replace hE := j_popB eG64 hE
          try dsimp only at hE
          exact kk mm61 H locs ls (Option.some.inj (j_ret eG0 hE)) jw (lv_sub hl [0, 1, 2] rfl)
        have LP64 : ∀ (n : Nat) (vv65 : Int32) (H : Heap) (locs : List Loc) (ls : Array Slot), G64 (lp_g3_4 Y a8 mm61 n vv65) = some r → JW D Y ty ad A s.heap mm61 H locs → lv_has ls 18 [(11, .int vv65), (1, .ref (ad 0)), (2, .int a2), (8, .int a8), (9, .ref (ad 142))] → W p l e R s m args below meth c H locs (cells + 1) (slots + 6) Q (F0 m 540 ls []) := by
          intro n
          induction n with
          | zero => intro vv65 H locs ls hE jw hl; exact absurd hE (hG64 _)
          | succ n ih =>
            intro vv65 H locs ls hE jw hl
            rw [lp_g3_4] at hE
            refine lv_iload hx hb dL_law_540 (lv_at hl 0 rfl) ?_
            refine lv_iload hx hb dL_law_542 (lv_at hl 3 rfl) ?_
            refine lv_icmp_ge (tgt := 570) hx hb dL_law_544 (by decide) (fun c66 => ?_) (fun c66 => ?_)
            · rw [if_pos c66] at hE
              exact E64_570   H locs ls hE jw (lv_sub hl [1, 2, 3, 4] rfl)
            · rw [if_neg c66] at hE
              refine lv_aload_n hx hb dL_law_547 rfl (lv_at hl 1 rfl) ?_
              refine lv_iconst (v := 3) hx hb dL_law_548 (by decide) ?_
              refine lv_iload hx hb dL_law_549 (lv_at hl 0 rfl) ?_
              obtain ⟨xx67, exx67, hE⟩ := j_bd hG64 hE
              try dsimp only at hE
              refine jc_vi [.int (3 : Int32), .int vv65] [] jc jw hA k0 (by decide) rfl (c_X9_line hY k0 (M := mm61) exx67) sd_L_68 rfl hl.1 (j_hRG hRf hRl (by omega) (by omega) rfl rfl) (Nat.le_of_ble_eq_true rfl) dL_law_551 (fun H locs jw => ?_)
              refine lv_aload hx hb dL_law_554 (lv_at hl 4 rfl) ?_
              refine lv_iload hx hb dL_law_556 (lv_at hl 0 rfl) ?_
              rcases Classical.em (j_g vv65 (j_ln Y 142)) with g68 | g68
              case inr => rw [if_neg g68] at hE; exact absurd hE (hG64 _)
              rw [if_pos g68] at hE
              refine jr_iald jc jw k142 (j_g_in g68) dL_law_558 ?_
              refine lv_icmp_eq (tgt := 564) hx hb dL_law_559 (by decide) (fun c69 => ?_) (fun c69 => ?_)
              · rw [if_pos c69] at hE
                obtain ⟨vv70, evv70, hE⟩ := j_lv hE
                try dsimp only at hE
                refine lv_iinc (v := vv70) (lv' := [(11, .int vv70), (1, .ref (ad 0)), (2, .int a2), (8, .int a8), (9, .ref (ad 142))]) hx hb dL_law_564 hl (k := 0) rfl (by rw [evv70]; rfl) (by decide) rfl (fun ls hl => ?_)
                refine lv_goto (tgt := 540) hx hb dL_law_567 (by decide) ?_
                exact ih vv70 H locs ls hE jw (lv_sub hl [0, 1, 2, 3, 4] rfl)
              · rw [if_neg c69] at hE
                refine lv_iconst (v := 0) hx hb dL_law_562 (by decide) ?_
                exact absurd hE (hG64 _)
        exact LP64 j_fuel (0 : Int32) H locs ls hE jw (lv_sub hl [0, 1, 2, 3, 4] rfl)
      · rw [if_neg c63] at hE
        refine lv_iconst (v := 0) hx hb dL_law_535 (by decide) ?_
        exact absurd hE (hG0 _)
    refine lv_if_lt (tgt := 525) hx hb dL_law_319 (by decide) (fun c12 => ?_) (fun c12 => ?_)
    · rw [if_pos c12] at hE
      exact J13 xx10.2  H locs ls hE jw (lv_sub hl [1, 2, 4, 5] rfl)
    · rw [if_neg c12] at hE
      refine lv_iconst (v := 0) hx hb dL_law_322 (by decide) ?_
      refine lv_istore (lv' := [(11, .int (0 : Int32)), (10, .int vv11), (1, .ref (ad 0)), (2, .int a2), (7, .int a7), (8, .int a8), (9, .ref (ad 142))]) hx hb dL_law_323 hl (by decide) rfl (fun ls hl => ?_)
      refine lv_iconst (v := 0) hx hb dL_law_325 (by decide) ?_
      refine lv_istore (lv' := [(12, .int (0 : Int32)), (11, .int (0 : Int32)), (10, .int vv11), (1, .ref (ad 0)), (2, .int a2), (7, .int a7), (8, .int a8), (9, .ref (ad 142))]) hx hb dL_law_326 hl (by decide) rfl (fun ls hl => ?_)
      refine lv_iconst (v := 0) hx hb dL_law_328 (by decide) ?_
      refine lv_istore (lv' := [(13, .int (0 : Int32)), (12, .int (0 : Int32)), (11, .int (0 : Int32)), (10, .int vv11), (1, .ref (ad 0)), (2, .int a2), (7, .int a7), (8, .int a8), (9, .ref (ad 142))]) hx hb dL_law_329 hl (by decide) rfl (fun ls hl => ?_)
      refine lv_iconst (v := 0) hx hb dL_law_331 (by decide) ?_
      refine lv_istore (lv' := [(14, .int (0 : Int32)), (13, .int (0 : Int32)), (12, .int (0 : Int32)), (11, .int (0 : Int32)), (10, .int vv11), (1, .ref (ad 0)), (2, .int a2), (7, .int a7), (8, .int a8), (9, .ref (ad 142))]) hx hb dL_law_332 hl (by decide) rfl (fun ls hl => ?_)
      obtain ⟨G14, eG14, hG14, hE⟩ := j_ctxB hG13 hE
      have E14_495 : ∀ (vv53 : Int32) (vv54 : Int32)  (H : Heap) (locs : List Loc) (ls : Array Slot), G14 (some (vv53, vv54)) = some r → JW D Y ty ad A s.heap xx10.2 H locs → lv_has ls 18 [(13, .int vv54), (12, .int vv53), (10, .int vv11), (1, .ref (ad 0)), (2, .int a2), (8, .int a8), (9, .ref (ad 142))] → W p l e R s m args below meth c H locs (cells + 1) (slots + 6) Q (F0 m 495 ls []) := by
        intro vv53 vv54  H locs ls hE jw hl
        replace hE := j_popB eG14 hE
        try dsimp only at hE
        refine lv_iload hx hb dL_law_495 (lv_at hl 0 rfl) ?_
        refine lv_iload hx hb dL_law_497 (lv_at hl 2 rfl) ?_
        refine lv_icmp_ne (tgt := 523) hx hb dL_law_499 (by decide) (fun c55 => ?_) (fun c55 => ?_)
        · rw [if_neg c55] at hE
          refine lv_iconst (v := 0) hx hb dL_law_523 (by decide) ?_
          exact absurd hE (hG13 _)
        · rw [if_pos c55] at hE
          refine lv_aload_n hx hb dL_law_502 rfl (lv_at hl 3 rfl) ?_
          refine lv_iconst (v := 3) hx hb dL_law_503 (by decide) ?_
          obtain ⟨xx56, exx56, hE⟩ := j_bd hG13 hE
          try dsimp only at hE
          refine jc_vi [.int (3 : Int32)] [] jc jw hA k0 (by decide) rfl (c_X9_length hY k0 (M := xx10.2) exx56) sd_L_23 rfl hl.1 (j_hRG hRf hRl (by omega) (by omega) rfl rfl) (Nat.le_of_ble_eq_true rfl) dL_law_504 (fun H locs jw => ?_)
          refine lv_iload hx hb dL_law_507 (lv_at hl 5 rfl) ?_
          refine lv_iload hx hb dL_law_509 (lv_at hl 1 rfl) ?_
          refine lv_iadd hx hb dL_law_511 ?_
          refine lv_icmp_ne (tgt := 523) hx hb dL_law_512 (by decide) (fun c57 => ?_) (fun c57 => ?_)
          · rw [if_neg c57] at hE
            refine lv_iconst (v := 0) hx hb dL_law_523 (by decide) ?_
            exact absurd hE (hG13 _)
          · rw [if_pos c57] at hE
            refine lv_aload_n hx hb dL_law_515 rfl (lv_at hl 3 rfl) ?_
            obtain ⟨xx58, exx58, hE⟩ := j_bd hG13 hE
            try dsimp only at hE
            refine jc_vi [] [] jc jw hA k0 (by decide) rfl (c_X9_undo hY k0 (M := xx10.2) exx58) sd_L_92 rfl hl.1 (j_hRG hRf hRl (by omega) (by omega) rfl rfl) (Nat.le_of_ble_eq_true rfl) dL_law_516 (fun H locs jw => ?_)
            refine lv_iconst (v := 3) hx hb dL_law_519 (by decide) ?_
            refine lv_icmp_eq (tgt := 525) hx hb dL_law_520 (by decide) (fun c59 => ?_) (fun c59 => ?_)
            · rw [if_pos c59] at hE
              exact J13 xx58.2  H locs ls hE jw (lv_sub hl [3, 4, 5, 6] rfl)
            · rw [if_neg c59] at hE
              refine lv_iconst (v := 0) hx hb dL_law_523 (by decide) ?_
              exact absurd hE (hG13 _)
      have LP14 : ∀ (n : Nat) (vv15 : Int32) (vv16 : Int32) (vv17 : Int32) (vv18 : Int32) (H : Heap) (locs : List Loc) (ls : Array Slot), G14 (lp_g3_2 Y a7 xx10 n vv15 vv16 vv17 vv18) = some r → JW D Y ty ad A s.heap xx10.2 H locs → lv_has ls 18 [(14, .int vv18), (13, .int vv17), (12, .int vv16), (11, .int vv15), (10, .int vv11), (1, .ref (ad 0)), (2, .int a2), (7, .int a7), (8, .int a8), (9, .ref (ad 142))] → W p l e R s m args below meth c H locs (cells + 1) (slots + 6) Q (F0 m 334 ls []) := by
        intro n
        induction n with
        | zero => intro vv15 vv16 vv17 vv18 H locs ls hE jw hl; exact absurd hE (hG14 _)
        | succ n ih =>
          intro vv15 vv16 vv17 vv18 H locs ls hE jw hl
          rw [lp_g3_2] at hE
          refine lv_iload hx hb dL_law_334 (lv_at hl 0 rfl) ?_
          refine lv_iload hx hb dL_law_336 (lv_at hl 7 rfl) ?_
          refine lv_icmp_ge (tgt := 495) hx hb dL_law_338 (by decide) (fun c19 => ?_) (fun c19 => ?_)
          · rw [if_pos c19] at hE
            exact E14_495 vv16 vv17  H locs ls hE jw (lv_sub hl [1, 2, 4, 5, 6, 8, 9] rfl)
          · rw [if_neg c19] at hE
            refine lv_aload_n hx hb dL_law_341 rfl (lv_at hl 5 rfl) ?_
            refine lv_iload hx hb dL_law_342 (lv_at hl 0 rfl) ?_
            refine lv_iconst (v := 0) hx hb dL_law_344 (by decide) ?_
            obtain ⟨xx20, exx20, hE⟩ := j_bd hG14 hE
            try dsimp only at hE
            refine jc_vi [.int vv18, .int (0 : Int32)] [] jc jw hA k0 (by decide) rfl (c_X9_outcome hY k0 (M := xx10.2) exx20) sd_L_81 rfl hl.1 (j_hRG hRf hRl (by omega) (by omega) rfl rfl) (Nat.le_of_ble_eq_true rfl) dL_law_345 (fun H locs jw => ?_)
            refine lv_istore (lv' := [(15, .int xx20), (14, .int vv18), (13, .int vv17), (12, .int vv16), (11, .int vv15), (10, .int vv11), (1, .ref (ad 0)), (2, .int a2), (7, .int a7), (8, .int a8), (9, .ref (ad 142))]) hx hb dL_law_348 hl (by decide) rfl (fun ls hl => ?_)
            refine lv_iload hx hb dL_law_350 (lv_at hl 0 rfl) ?_
            refine lv_iconst (v := -1) hx hb dL_law_352 (by decide) ?_
            obtain ⟨G22, eG22, hG22, hE⟩ := j_ctxB hG14 hE
            have J22 : ∀ (vv48 : Int32) (vv49 : Int32) (vv50 : Int32)  (H : Heap) (locs : List Loc) (ls : Array Slot), G22 (some (vv48, vv49, vv50)) = some r → JW D Y ty ad A s.heap xx10.2 H locs → lv_has ls 18 [(14, .int vv18), (13, .int vv50), (12, .int vv49), (11, .int vv48), (10, .int vv11), (1, .ref (ad 0)), (2, .int a2), (7, .int a7), (8, .int a8), (9, .ref (ad 142))] → W p l e R s m args below meth c H locs (cells + 1) (slots + 6) Q (F0 m 489 ls []) := by
              intro vv48 vv49 vv50  H locs ls hE jw hl
              replace hE := j_popB eG22 hE
              try dsimp only at hE
              obtain ⟨vv51, evv51, hE⟩ := j_lv hE
              try dsimp only at hE
              refine lv_iinc (v := vv51) (lv' := [(14, .int vv51), (13, .int vv50), (12, .int vv49), (11, .int vv48), (10, .int vv11), (1, .ref (ad 0)), (2, .int a2), (7, .int a7), (8, .int a8), (9, .ref (ad 142))]) hx hb dL_law_489 hl (k := 0) rfl (by rw [evv51]; rfl) (by decide) rfl (fun ls hl => ?_)
              refine lv_goto (tgt := 334) hx hb dL_law_492 (by decide) ?_
              exact ih vv48 vv49 vv50 vv51 H locs ls hE jw (lv_sub hl [0, 1, 2, 3, 4, 5, 6, 7, 8, 9] rfl)
            refine lv_icmp_ne (tgt := 359) hx hb dL_law_353 (by decide) (fun c21 => ?_) (fun c21 => ?_)
            · rw [if_neg c21] at hE
              refine lv_iload hx hb dL_law_359 (lv_at hl 0 rfl) ?_
              refine lv_aload_n hx hb dL_law_361 rfl (lv_at hl 6 rfl) ?_
              refine lv_iload hx hb dL_law_362 (lv_at hl 1 rfl) ?_
              refine lv_iconst (v := 0) hx hb dL_law_364 (by decide) ?_
              obtain ⟨xx23, exx23, hE⟩ := j_bd hG22 hE
              try dsimp only at hE
              refine jc_vi [.int vv18, .int (0 : Int32)] [.int xx20] jc jw hA k0 (by decide) rfl (c_X9_hunk hY k0 (M := xx10.2) exx23) sd_L_84 rfl hl.1 (j_hRG hRf hRl (by omega) (by omega) rfl rfl) (Nat.le_of_ble_eq_true rfl) dL_law_365 (fun H locs jw => ?_)
              refine lv_isub hx hb dL_law_368 ?_
              refine lv_topi (fun vv24 evv24 => ?_)
              replace hE := j_lu hE evv24
              try dsimp only at hE
              refine lv_istore (lv' := [(16, .int vv24), (15, .int xx20), (14, .int vv18), (13, .int vv17), (12, .int vv16), (11, .int vv15), (10, .int vv11), (1, .ref (ad 0)), (2, .int a2), (7, .int a7), (8, .int a8), (9, .ref (ad 142))]) hx hb dL_law_369 hl (by decide) rfl (fun ls hl => ?_)
              refine lv_aload_n hx hb dL_law_371 rfl (lv_at hl 7 rfl) ?_
              refine lv_iload hx hb dL_law_372 (lv_at hl 2 rfl) ?_
              refine lv_iconst (v := 1) hx hb dL_law_374 (by decide) ?_
              obtain ⟨xx25, exx25, hE⟩ := j_bd hG22 hE
              try dsimp only at hE
              refine jc_vi [.int vv18, .int (1 : Int32)] [] jc jw hA k0 (by decide) rfl (c_X9_outcome hY k0 (M := xx10.2) exx25) sd_L_81 rfl hl.1 (j_hRG hRf hRl (by omega) (by omega) rfl rfl) (Nat.le_of_ble_eq_true rfl) dL_law_375 (fun H locs jw => ?_)
              have B47 : ∀ (H : Heap) (locs : List Loc), JW D Y ty ad A s.heap xx10.2 H locs → (¬ (xx25 = 0) ∨ xx20 < vv15) → W p l e R s m args below meth c H locs (cells + 1) (slots + 6) Q (F0 m 403 ls []) := by
                intro H locs jw hcc
                rw [if_pos hcc] at hE
                refine lv_iconst (v := 0) hx hb dL_law_403 (by decide) ?_
                exact absurd hE (hG22 _)
              refine lv_if_ne (tgt := 403) hx hb dL_law_378 (by decide) (fun c26 => B47 _ _ jw (Or.inl c26)) (fun c26 => ?_)
              refine lv_iload hx hb dL_law_381 (lv_at hl 1 rfl) ?_
              refine lv_iload hx hb dL_law_383 (lv_at hl 5 rfl) ?_
              refine lv_icmp_lt (tgt := 403) hx hb dL_law_385 (by decide) (fun c27 => B47 _ _ jw (Or.inr c27)) (fun c27 => ?_)
              rw [if_neg (fun hq => hq.elim (fun hq => (j_absn c26 hq)) (fun hq => (j_abs c27 hq)))] at hE
              refine lv_iload hx hb dL_law_388 (lv_at hl 3 rfl) ?_
              have B46 : ∀ (H : Heap) (locs : List Loc), JW D Y ty ad A s.heap xx10.2 H locs → (¬ (vv17 = 0) ∨ (if 0 ≤ vv24 then vv24 else 0 - vv24) ≤ (10 : Int32)) → W p l e R s m args below meth c H locs (cells + 1) (slots + 6) Q (F0 m 405 ls []) := by
                intro H locs jw hcc
                rw [if_pos hcc] at hE
                refine lv_iconst (v := 0) hx hb dL_law_405 (by decide) ?_
                refine lv_istore (lv' := [(17, .int (0 : Int32)), (16, .int vv24), (15, .int xx20), (14, .int vv18), (13, .int vv17), (12, .int vv16), (11, .int vv15), (10, .int vv11), (1, .ref (ad 0)), (2, .int a2), (7, .int a7), (8, .int a8), (9, .ref (ad 142))]) hx hb dL_law_406 hl (by decide) rfl (fun ls hl => ?_)
                obtain ⟨G30, eG30, hG30, hE⟩ := j_ctxB hG22 hE
                have E30_454 : ∀   (H : Heap) (locs : List Loc) (ls : Array Slot), G30 (some ()) = some r → JW D Y ty ad A s.heap xx10.2 H locs → lv_has ls 18 [(15, .int xx20), (14, .int vv18), (13, .int vv17), (12, .int vv16), (10, .int vv11), (1, .ref (ad 0)), (2, .int a2), (7, .int a7), (8, .int a8), (9, .ref (ad 142))] → W p l e R s m args below meth c H locs (cells + 1) (slots + 6) Q (F0 m 454 ls []) := by
                  intro   H locs ls hE jw hl
                  replace hE := j_popB eG30 hE
                  try dsimp only at hE
                  refine lv_iload hx hb dL_law_454 (lv_at hl 0 rfl) ?_
                  refine lv_aload_n hx hb dL_law_456 rfl (lv_at hl 5 rfl) ?_
                  refine lv_iload hx hb dL_law_457 (lv_at hl 1 rfl) ?_
                  refine lv_iconst (v := 1) hx hb dL_law_459 (by decide) ?_
                  obtain ⟨xx39, exx39, hE⟩ := j_bd hG22 hE
                  try dsimp only at hE
                  refine jc_vi [.int vv18, .int (1 : Int32)] [.int xx20] jc jw hA k0 (by decide) rfl (c_X9_hunk hY k0 (M := xx10.2) exx39) sd_L_84 rfl hl.1 (j_hRG hRf hRl (by omega) (by omega) rfl rfl) (Nat.le_of_ble_eq_true rfl) dL_law_460 (fun H locs jw => ?_)
                  refine lv_iadd hx hb dL_law_463 ?_
                  refine lv_topi (fun vv40 evv40 => ?_)
                  replace hE := j_lu hE evv40
                  try dsimp only at hE
                  refine lv_istore (lv' := [(11, .int vv40), (15, .int xx20), (14, .int vv18), (13, .int vv17), (12, .int vv16), (10, .int vv11), (1, .ref (ad 0)), (2, .int a2), (7, .int a7), (8, .int a8), (9, .ref (ad 142))]) hx hb dL_law_464 hl (by decide) rfl (fun ls hl => ?_)
                  refine lv_iload hx hb dL_law_466 (lv_at hl 4 rfl) ?_
                  refine lv_aload_n hx hb dL_law_468 rfl (lv_at hl 6 rfl) ?_
                  refine lv_iload hx hb dL_law_469 (lv_at hl 2 rfl) ?_
                  refine lv_iconst (v := 3) hx hb dL_law_471 (by decide) ?_
                  obtain ⟨xx41, exx41, hE⟩ := j_bd hG22 hE
                  try dsimp only at hE
                  refine jc_vi [.int vv18, .int (3 : Int32)] [.int vv16] jc jw hA k0 (by decide) rfl (c_X9_hunk hY k0 (M := xx10.2) exx41) sd_L_84 rfl hl.1 (j_hRG hRf hRl (by omega) (by omega) rfl rfl) (Nat.le_of_ble_eq_true rfl) dL_law_472 (fun H locs jw => ?_)
                  refine lv_aload_n hx hb dL_law_475 rfl (lv_at hl 6 rfl) ?_
                  refine lv_iload hx hb dL_law_476 (lv_at hl 2 rfl) ?_
                  refine lv_iconst (v := 1) hx hb dL_law_478 (by decide) ?_
                  obtain ⟨xx42, exx42, hE⟩ := j_bd hG22 hE
                  try dsimp only at hE
                  refine jc_vi [.int vv18, .int (1 : Int32)] [.int xx41, .int vv16] jc jw hA k0 (by decide) rfl (c_X9_hunk hY k0 (M := xx10.2) exx42) sd_L_84 rfl hl.1 (j_hRG hRf hRl (by omega) (by omega) rfl rfl) (Nat.le_of_ble_eq_true rfl) dL_law_479 (fun H locs jw => ?_)
                  refine lv_isub hx hb dL_law_482 ?_
                  refine lv_iadd hx hb dL_law_483 ?_
                  refine lv_topi (fun vv43 evv43 => ?_)
                  replace hE := j_lu hE evv43
                  try dsimp only at hE
                  refine lv_istore (lv' := [(12, .int vv43), (11, .int vv40), (15, .int xx20), (14, .int vv18), (13, .int vv17), (10, .int vv11), (1, .ref (ad 0)), (2, .int a2), (7, .int a7), (8, .int a8), (9, .ref (ad 142))]) hx hb dL_law_484 hl (by decide) rfl (fun ls hl => ?_)
                  obtain ⟨vv44, evv44, hE⟩ := j_lv hE
                  try dsimp only at hE
                  refine lv_iinc (v := vv44) (lv' := [(13, .int vv44), (12, .int vv43), (11, .int vv40), (15, .int xx20), (14, .int vv18), (10, .int vv11), (1, .ref (ad 0)), (2, .int a2), (7, .int a7), (8, .int a8), (9, .ref (ad 142))]) hx hb dL_law_486 hl (k := 4) rfl (by rw [evv44]; rfl) (by decide) rfl (fun ls hl => ?_)
                  exact J22 vv40 vv43 vv44  H locs ls hE jw (lv_sub hl [4, 0, 1, 2, 5, 6, 7, 8, 9, 10] rfl)
                have LP30 : ∀ (n : Nat) (vv31 : Int32) (H : Heap) (locs : List Loc) (ls : Array Slot), G30 (lp_g3_3 Y xx10 vv18 xx20 n vv31) = some r → JW D Y ty ad A s.heap xx10.2 H locs → lv_has ls 18 [(17, .int vv31), (15, .int xx20), (14, .int vv18), (13, .int vv17), (12, .int vv16), (10, .int vv11), (1, .ref (ad 0)), (2, .int a2), (7, .int a7), (8, .int a8), (9, .ref (ad 142))] → W p l e R s m args below meth c H locs (cells + 1) (slots + 6) Q (F0 m 408 ls []) := by
                  intro n
                  induction n with
                  | zero => intro vv31 H locs ls hE jw hl; exact absurd hE (hG30 _)
                  | succ n ih =>
                    intro vv31 H locs ls hE jw hl
                    rw [lp_g3_3] at hE
                    refine lv_iload hx hb dL_law_408 (lv_at hl 0 rfl) ?_
                    refine lv_aload_n hx hb dL_law_410 rfl (lv_at hl 6 rfl) ?_
                    refine lv_iload hx hb dL_law_411 (lv_at hl 2 rfl) ?_
                    refine lv_iconst (v := 1) hx hb dL_law_413 (by decide) ?_
                    obtain ⟨xx32, exx32, hE⟩ := j_bd hG30 hE
                    try dsimp only at hE
                    refine jc_vi [.int vv18, .int (1 : Int32)] [.int vv31] jc jw hA k0 (by decide) rfl (c_X9_hunk hY k0 (M := xx10.2) exx32) sd_L_84 rfl hl.1 (j_hRG hRf hRl (by omega) (by omega) rfl rfl) (Nat.le_of_ble_eq_true rfl) dL_law_414 (fun H locs jw => ?_)
                    refine lv_icmp_ge (tgt := 454) hx hb dL_law_417 (by decide) (fun c33 => ?_) (fun c33 => ?_)
                    · rw [if_pos c33] at hE
                      exact E30_454   H locs ls hE jw (lv_sub hl [1, 2, 3, 4, 5, 6, 7, 8, 9, 10] rfl)
                    · rw [if_neg c33] at hE
                      refine lv_aload hx hb dL_law_420 (lv_at hl 10 rfl) ?_
                      refine lv_iload hx hb dL_law_422 (lv_at hl 1 rfl) ?_
                      refine lv_iload hx hb dL_law_424 (lv_at hl 0 rfl) ?_
                      refine lv_iadd hx hb dL_law_426 ?_
                      rcases Classical.em (j_g (xx20 + vv31) (j_ln Y 142)) with g34 | g34
                      case inr => rw [if_neg g34] at hE; exact absurd hE (hG30 _)
                      rw [if_pos g34] at hE
                      refine jr_iald jc jw k142 (j_g_in g34) dL_law_427 ?_
                      refine lv_aload_n hx hb dL_law_428 rfl (lv_at hl 6 rfl) ?_
                      refine lv_iconst (v := 1) hx hb dL_law_429 (by decide) ?_
                      refine lv_aload_n hx hb dL_law_430 rfl (lv_at hl 6 rfl) ?_
                      refine lv_iload hx hb dL_law_431 (lv_at hl 2 rfl) ?_
                      refine lv_iconst (v := 0) hx hb dL_law_433 (by decide) ?_
                      obtain ⟨xx35, exx35, hE⟩ := j_bd hG30 hE
                      try dsimp only at hE
                      refine jc_vi [.int vv18, .int (0 : Int32)] [.int (1 : Int32), .ref (ad 0), .int (xx10.2 142 (xx20 + vv31).toNatClampNeg)] jc jw hA k0 (by decide) rfl (c_X9_hunk hY k0 (M := xx10.2) exx35) sd_L_84 rfl hl.1 (j_hRG hRf hRl (by omega) (by omega) rfl rfl) (Nat.le_of_ble_eq_true rfl) dL_law_434 (fun H locs jw => ?_)
                      refine lv_iload hx hb dL_law_437 (lv_at hl 0 rfl) ?_
                      refine lv_iadd hx hb dL_law_439 ?_
                      obtain ⟨xx36, exx36, hE⟩ := j_bd hG30 hE
                      try dsimp only at hE
                      refine jc_vi [.int (1 : Int32), .int (xx35 + vv31)] [.int (xx10.2 142 (xx20 + vv31).toNatClampNeg)] jc jw hA k0 (by decide) rfl (c_X9_line hY k0 (M := xx10.2) exx36) sd_L_68 rfl hl.1 (j_hRG hRf hRl (by omega) (by omega) rfl rfl) (Nat.le_of_ble_eq_true rfl) dL_law_440 (fun H locs jw => ?_)
                      refine lv_icmp_eq (tgt := 448) hx hb dL_law_443 (by decide) (fun c37 => ?_) (fun c37 => ?_)
                      · rw [if_pos c37] at hE
                        obtain ⟨vv38, evv38, hE⟩ := j_lv hE
                        try dsimp only at hE
                        refine lv_iinc (v := vv38) (lv' := [(17, .int vv38), (15, .int xx20), (14, .int vv18), (13, .int vv17), (12, .int vv16), (10, .int vv11), (1, .ref (ad 0)), (2, .int a2), (7, .int a7), (8, .int a8), (9, .ref (ad 142))]) hx hb dL_law_448 hl (k := 0) rfl (by rw [evv38]; rfl) (by decide) rfl (fun ls hl => ?_)
                        refine lv_goto (tgt := 408) hx hb dL_law_451 (by decide) ?_
                        exact ih vv38 H locs ls hE jw (lv_sub hl [0, 1, 2, 3, 4, 5, 6, 7, 8, 9, 10] rfl)
                      · rw [if_neg c37] at hE
                        refine lv_iconst (v := 0) hx hb dL_law_446 (by decide) ?_
                        exact absurd hE (hG30 _)
                exact LP30 j_fuel (0 : Int32) H locs ls hE jw (lv_sub hl [0, 2, 3, 4, 5, 7, 8, 9, 10, 11, 12] rfl)
              refine lv_if_ne (tgt := 405) hx hb dL_law_390 (by decide) (fun c28 => B46 _ _ jw (Or.inl c28)) (fun c28 => ?_)
              refine lv_iload hx hb dL_law_393 (lv_at hl 0 rfl) ?_
              refine va_mabs hx hb (jc.2.2.1.trans hl.1.symm) jc.2.2.2.1 (jc.2.2.2.2.1 _ wd_5_64) (jc.2.2.2.2.1 _ wd_5_65) (jc.2.2.2.2.1 _ wd_1_17) (jc.2.2.2.2.1 _ wd_5_66) (Nat.le_trans (Nat.le_of_ble_eq_true rfl) hRf) (Nat.le_trans (Nat.le_of_ble_eq_true rfl) hRl) (by omega) (by omega) dL_law_395 ?_
              refine lv_bipush (v := 10) hx hb dL_law_398 (by decide) ?_
              refine lv_icmp_le (tgt := 405) hx hb dL_law_400 (by decide) (fun c29 => B46 _ _ jw (Or.inr c29)) (fun c29 => ?_)
              rw [if_neg (fun hq => hq.elim (fun hq => (j_absn c28 hq)) (fun hq => (j_abs c29 hq)))] at hE
              refine lv_iconst (v := 0) hx hb dL_law_403 (by decide) ?_
              exact absurd hE (hG22 _)
            · rw [if_pos c21] at hE
              refine lv_goto (tgt := 489) hx hb dL_law_356 (by decide) ?_
              exact J22 vv15 vv16 vv17  H locs ls hE jw (lv_sub hl [1, 2, 3, 4, 5, 6, 7, 8, 9, 10] rfl)
      exact LP14 j_fuel (0 : Int32) (0 : Int32) (0 : Int32) (0 : Int32) H locs ls hE jw (lv_sub hl [0, 1, 2, 3, 4, 5, 6, 7, 8, 9] rfl)
  have LP1 : ∀ (n : Nat) (vv2 : Int32) (mm3 : JM) (H : Heap) (locs : List Loc) (ls : Array Slot), G1 (lp_g3_1 Y a8 n vv2 mm3) = some r → JW D Y ty ad A s.heap mm3 H locs → lv_has ls 18 [(10, .int vv2), (1, .ref (ad 0)), (2, .int a2), (7, .int a7), (8, .int a8), (9, .ref (ad 142))] → W p l e R s m args below meth c H locs cells slots Q (F0 m 286 ls []) := by
    intro n
    induction n with
    | zero => intro vv2 mm3 H locs ls hE jw hl; exact absurd hE (hG1 _)
    | succ n ih =>
      intro vv2 mm3 H locs ls hE jw hl
      rw [lp_g3_1] at hE
      refine lv_iload hx hb dL_law_286 (lv_at hl 0 rfl) ?_
      refine lv_iload hx hb dL_law_288 (lv_at hl 4 rfl) ?_
      refine lv_icmp_ge (tgt := 311) hx hb dL_law_290 (by decide) (fun c4 => ?_) (fun c4 => ?_)
      · rw [if_pos c4] at hE
        exact E1_311 mm3  H locs ls hE jw (lv_sub hl [1, 2, 3, 4, 5] rfl)
      · rw [if_neg c4] at hE
        refine lv_aload hx hb dL_law_293 (lv_at hl 5 rfl) ?_
        refine lv_iload hx hb dL_law_295 (lv_at hl 0 rfl) ?_
        refine lv_aload_n hx hb dL_law_297 rfl (lv_at hl 1 rfl) ?_
        refine lv_iconst (v := 3) hx hb dL_law_298 (by decide) ?_
        refine lv_iload hx hb dL_law_299 (lv_at hl 0 rfl) ?_
        obtain ⟨xx5, exx5, hE⟩ := j_bd hG1 hE
        try dsimp only at hE
        refine jc_vi [.int (3 : Int32), .int vv2] [.int vv2, .ref (ad 142)] jc jw hA k0 (by decide) rfl (c_X9_line hY k0 (M := mm3) exx5) sd_L_68 rfl hl.1 (j_hRG hRf hRl (by omega) (by omega) rfl rfl) (Nat.le_of_ble_eq_true rfl) dL_law_301 (fun H locs jw => ?_)
        rcases Classical.em (j_g vv2 (j_ln Y 142)) with g6 | g6
        case inr => rw [if_neg g6] at hE; exact absurd hE (hG1 _)
        rw [if_pos g6] at hE
        refine jr_iast jc jw k142 (j_g_in g6) dL_law_304 (fun H locs jw => ?_)
        obtain ⟨mm7, emm7, hE⟩ := j_lv hE
        rw [← emm7] at jw
        try dsimp only at hE
        obtain ⟨vv8, evv8, hE⟩ := j_lv hE
        try dsimp only at hE
        refine lv_iinc (v := vv8) (lv' := [(10, .int vv8), (1, .ref (ad 0)), (2, .int a2), (7, .int a7), (8, .int a8), (9, .ref (ad 142))]) hx hb dL_law_305 hl (k := 0) rfl (by rw [evv8]; rfl) (by decide) rfl (fun ls hl => ?_)
        refine lv_goto (tgt := 286) hx hb dL_law_308 (by decide) ?_
        exact ih vv8 mm7 H locs ls hE jw (lv_sub hl [0, 1, 2, 3, 4, 5] rfl)
  exact LP1 j_fuel (0 : Int32) M H locs ls hE jw (lv_sub hl [0, 1, 2, 3, 4, 5] rfl)
def sg_4 (Y : JY) (M : JM) (L : Nat) (xs : Nat → Int32) (a2 : Int32) (a8 : Int32) : Option (JM) := if j_g (0 : Int32) (j_ln Y 143) then (lt_ (j_up M 143 (0 : Int32).toNatClampNeg (vp_nar .char (97 : Int32))) fun mm2 => if j_g (1 : Int32) (j_ln Y 143) then (lt_ (j_up mm2 143 (1 : Int32).toNatClampNeg (vp_nar .char (40 : Int32))) fun mm4 => if j_g (2 : Int32) (j_ln Y 143) then (lt_ (j_up mm4 143 (2 : Int32).toNatClampNeg (vp_nar .char (98 : Int32))) fun mm6 => if j_g (3 : Int32) (j_ln Y 143) then (lt_ (j_up mm6 143 (3 : Int32).toNatClampNeg (vp_nar .char (99 : Int32))) fun mm8 => if j_g (4 : Int32) (j_ln Y 143) then (lt_ (j_up mm8 143 (4 : Int32).toNatClampNeg (vp_nar .char (50 : Int32))) fun mm10 => if j_g (5 : Int32) (j_ln Y 143) then (lt_ (j_up mm10 143 (5 : Int32).toNatClampNeg (vp_nar .char (41 : Int32))) fun mm12 => if j_g (6 : Int32) (j_ln Y 143) then (lt_ (j_up mm12 143 (6 : Int32).toNatClampNeg (vp_nar .char (51 : Int32))) fun mm14 => (s_L_feed Y mm14 0 143).bind fun xx15 => (s_X9_readDocument Y xx15 0 (3 : Int32)).bind fun xx16 => if xx16.1 = (10 : Int32) then ((s_X9_line Y xx16.2 0 (3 : Int32) (0 : Int32)).bind fun xx18 => if xx18 = 0 then ((s_X9_line Y xx16.2 0 (3 : Int32) (1 : Int32)).bind fun xx20 => if xx20 = (1 : Int32) then ((s_X9_line Y xx16.2 0 (3 : Int32) (3 : Int32)).bind fun xx22 => if xx22 = (2 : Int32) then ((s_X9_line Y xx16.2 0 (3 : Int32) (4 : Int32)).bind fun xx24 => if xx24 = (1 : Int32) then (some xx16.2) else (none)) else (none)) else (none)) else (none)) else (none)) else none) else none) else none) else none) else none) else none) else none
set_option maxRecDepth 100000 in
set_option maxHeartbeats 4000000 in
theorem g_4 {p : Program} {l : Launch} {e : Env} {R : Room} {s : State} {m : MethodId} {args : Array Value} {below : List Frame} {meth : Method} {c : Code} {H : Heap} {locs : List Loc} {cells slots : Nat} {Q : State → Prop} {ls : Array Slot} {D : va_G} {Y : JY} {ty : Nat → ClassId} {ad : Nat → Nat} {A : Nat → Prop} {M : JM} {L b : Nat} {xs : Nat → Int32} {a2 : Int32} {a8 : Int32} (jc : JC D Y ty p s m args c cL_law 18 jlw) (hA : ∀ q, s.heap.size ≤ q → A q) (hX : va_X b L xs s s.heap) (hbl : b < s.heap.size) (hbA : ¬ A b) (hL : L ≤ 260) (k0 : j_kd Y 0 = 9) (k143 : j_kd Y 143 = 102) (hRf : 6 ≤ R.frames) (hRl : 135 ≤ R.locals) (hRc : cells + 0 ≤ R.cells) (hRs : slots + 0 ≤ R.slots) {r : JM} (hE : sg_4 Y M L xs a2 a8 = some r) (jw : JW D Y ty ad A s.heap M H locs) (hl : lv_has ls 18 [(1, .ref (ad 0)), (2, .int a2), (8, .int a8)]) (kk : ∀ (N : JM) (H : Heap) (locs : List Loc) (ls : Array Slot), N = r → JW D Y ty ad A s.heap N H locs → lv_has ls 18 [(1, .ref (ad 0)), (2, .int a2), (8, .int a8)] → W p l e R s m args below meth c H locs cells slots Q (F0 m 665 ls [])) : W p l e R s m args below meth c H locs cells slots Q (F0 m 575 ls [.ref (ad 143), .ref (ad 0)]) := by
  have hx := jc.1
  have hb := jc.2.1
  have hY := jc.2.2.2.2.2.2
  unfold sg_4 at hE
  obtain ⟨G0, eG0, hG0, hE⟩ := j_F0o hE
  refine lv_dup hx hb dL_law_575 rfl ?_
  refine lv_iconst (v := 0) hx hb dL_law_576 (by decide) ?_
  refine lv_bipush (v := 97) hx hb dL_law_577 (by decide) ?_
  rcases Classical.em (j_g (0 : Int32) (j_ln Y 143)) with g1 | g1
  case inr => rw [if_neg g1] at hE; exact absurd hE (hG0 _)
  rw [if_pos g1] at hE
  refine jr_cast jc jw k143 (j_g_in g1) dL_law_579 (fun H locs jw => ?_)
  obtain ⟨mm2, emm2, hE⟩ := j_lv hE
  rw [← emm2] at jw
  try dsimp only at hE
  refine lv_dup hx hb dL_law_580 rfl ?_
  refine lv_iconst (v := 1) hx hb dL_law_581 (by decide) ?_
  refine lv_bipush (v := 40) hx hb dL_law_582 (by decide) ?_
  rcases Classical.em (j_g (1 : Int32) (j_ln Y 143)) with g3 | g3
  case inr => rw [if_neg g3] at hE; exact absurd hE (hG0 _)
  rw [if_pos g3] at hE
  refine jr_cast jc jw k143 (j_g_in g3) dL_law_584 (fun H locs jw => ?_)
  obtain ⟨mm4, emm4, hE⟩ := j_lv hE
  rw [← emm4] at jw
  try dsimp only at hE
  refine lv_dup hx hb dL_law_585 rfl ?_
  refine lv_iconst (v := 2) hx hb dL_law_586 (by decide) ?_
  refine lv_bipush (v := 98) hx hb dL_law_587 (by decide) ?_
  rcases Classical.em (j_g (2 : Int32) (j_ln Y 143)) with g5 | g5
  case inr => rw [if_neg g5] at hE; exact absurd hE (hG0 _)
  rw [if_pos g5] at hE
  refine jr_cast jc jw k143 (j_g_in g5) dL_law_589 (fun H locs jw => ?_)
  obtain ⟨mm6, emm6, hE⟩ := j_lv hE
  rw [← emm6] at jw
  try dsimp only at hE
  refine lv_dup hx hb dL_law_590 rfl ?_
  refine lv_iconst (v := 3) hx hb dL_law_591 (by decide) ?_
  refine lv_bipush (v := 99) hx hb dL_law_592 (by decide) ?_
  rcases Classical.em (j_g (3 : Int32) (j_ln Y 143)) with g7 | g7
  case inr => rw [if_neg g7] at hE; exact absurd hE (hG0 _)
  rw [if_pos g7] at hE
  refine jr_cast jc jw k143 (j_g_in g7) dL_law_594 (fun H locs jw => ?_)
  obtain ⟨mm8, emm8, hE⟩ := j_lv hE
  rw [← emm8] at jw
  try dsimp only at hE
  refine lv_dup hx hb dL_law_595 rfl ?_
  refine lv_iconst (v := 4) hx hb dL_law_596 (by decide) ?_
  refine lv_bipush (v := 50) hx hb dL_law_597 (by decide) ?_
  rcases Classical.em (j_g (4 : Int32) (j_ln Y 143)) with g9 | g9
  case inr => rw [if_neg g9] at hE; exact absurd hE (hG0 _)
  rw [if_pos g9] at hE
  refine jr_cast jc jw k143 (j_g_in g9) dL_law_599 (fun H locs jw => ?_)
  obtain ⟨mm10, emm10, hE⟩ := j_lv hE
  rw [← emm10] at jw
  try dsimp only at hE
  refine lv_dup hx hb dL_law_600 rfl ?_
  refine lv_iconst (v := 5) hx hb dL_law_601 (by decide) ?_
  refine lv_bipush (v := 41) hx hb dL_law_602 (by decide) ?_
  rcases Classical.em (j_g (5 : Int32) (j_ln Y 143)) with g11 | g11
  case inr => rw [if_neg g11] at hE; exact absurd hE (hG0 _)
  rw [if_pos g11] at hE
  refine jr_cast jc jw k143 (j_g_in g11) dL_law_604 (fun H locs jw => ?_)
  obtain ⟨mm12, emm12, hE⟩ := j_lv hE
  rw [← emm12] at jw
  try dsimp only at hE
  refine lv_dup hx hb dL_law_605 rfl ?_
  refine lv_bipush (v := 6) hx hb dL_law_606 (by decide) ?_
  refine lv_bipush (v := 51) hx hb dL_law_608 (by decide) ?_
  rcases Classical.em (j_g (6 : Int32) (j_ln Y 143)) with g13 | g13
  case inr => rw [if_neg g13] at hE; exact absurd hE (hG0 _)
  rw [if_pos g13] at hE
  refine jr_cast jc jw k143 (j_g_in g13) dL_law_610 (fun H locs jw => ?_)
  obtain ⟨mm14, emm14, hE⟩ := j_lv hE
  rw [← emm14] at jw
  try dsimp only at hE
  obtain ⟨xx15, exx15, hE⟩ := j_bd hG0 hE
  try dsimp only at hE
  refine jc_sv [.ref (ad 0), .ref (ad 143)] [] jc jw hA (c_L_feed hY k0 k143 (M := mm14) exx15) sd_L_95 rfl hl.1 (j_hRG hRf hRl (by omega) (by omega) rfl rfl) (Nat.le_of_ble_eq_true rfl) dL_law_611 (fun H locs jw => ?_)
  refine lv_aload_n hx hb dL_law_614 rfl (lv_at hl 0 rfl) ?_
  refine lv_iconst (v := 3) hx hb dL_law_615 (by decide) ?_
  obtain ⟨xx16, exx16, hE⟩ := j_bd hG0 hE
  try dsimp only at hE
  refine jc_vi [.int (3 : Int32)] [] jc jw hA k0 (by decide) rfl (c_X9_readDocument hY k0 (M := xx15) exx16) sd_L_98 rfl hl.1 (j_hRG hRf hRl (by omega) (by omega) rfl rfl) (Nat.le_of_ble_eq_true rfl) dL_law_616 (fun H locs jw => ?_)
  refine lv_bipush (v := 10) hx hb dL_law_619 (by decide) ?_
  refine lv_icmp_ne (tgt := 663) hx hb dL_law_621 (by decide) (fun c17 => ?_) (fun c17 => ?_)
  · rw [if_neg c17] at hE
    refine lv_iconst (v := 0) hx hb dL_law_663 (by decide) ?_
    exact absurd hE (hG0 _)
  · rw [if_pos c17] at hE
    refine lv_aload_n hx hb dL_law_624 rfl (lv_at hl 0 rfl) ?_
    refine lv_iconst (v := 3) hx hb dL_law_625 (by decide) ?_
    refine lv_iconst (v := 0) hx hb dL_law_626 (by decide) ?_
    obtain ⟨xx18, exx18, hE⟩ := j_bd hG0 hE
    try dsimp only at hE
    refine jc_vi [.int (3 : Int32), .int (0 : Int32)] [] jc jw hA k0 (by decide) rfl (c_X9_line hY k0 (M := xx16.2) exx18) sd_L_68 rfl hl.1 (j_hRG hRf hRl (by omega) (by omega) rfl rfl) (Nat.le_of_ble_eq_true rfl) dL_law_627 (fun H locs jw => ?_)
    refine lv_if_ne (tgt := 663) hx hb dL_law_630 (by decide) (fun c19 => ?_) (fun c19 => ?_)
    · rw [if_neg c19] at hE
      refine lv_iconst (v := 0) hx hb dL_law_663 (by decide) ?_
      exact absurd hE (hG0 _)
    · rw [if_pos c19] at hE
      refine lv_aload_n hx hb dL_law_633 rfl (lv_at hl 0 rfl) ?_
      refine lv_iconst (v := 3) hx hb dL_law_634 (by decide) ?_
      refine lv_iconst (v := 1) hx hb dL_law_635 (by decide) ?_
      obtain ⟨xx20, exx20, hE⟩ := j_bd hG0 hE
      try dsimp only at hE
      refine jc_vi [.int (3 : Int32), .int (1 : Int32)] [] jc jw hA k0 (by decide) rfl (c_X9_line hY k0 (M := xx16.2) exx20) sd_L_68 rfl hl.1 (j_hRG hRf hRl (by omega) (by omega) rfl rfl) (Nat.le_of_ble_eq_true rfl) dL_law_636 (fun H locs jw => ?_)
      refine lv_iconst (v := 1) hx hb dL_law_639 (by decide) ?_
      refine lv_icmp_ne (tgt := 663) hx hb dL_law_640 (by decide) (fun c21 => ?_) (fun c21 => ?_)
      · rw [if_neg c21] at hE
        refine lv_iconst (v := 0) hx hb dL_law_663 (by decide) ?_
        exact absurd hE (hG0 _)
      · rw [if_pos c21] at hE
        refine lv_aload_n hx hb dL_law_643 rfl (lv_at hl 0 rfl) ?_
        refine lv_iconst (v := 3) hx hb dL_law_644 (by decide) ?_
        refine lv_iconst (v := 3) hx hb dL_law_645 (by decide) ?_
        obtain ⟨xx22, exx22, hE⟩ := j_bd hG0 hE
        try dsimp only at hE
        refine jc_vi [.int (3 : Int32), .int (3 : Int32)] [] jc jw hA k0 (by decide) rfl (c_X9_line hY k0 (M := xx16.2) exx22) sd_L_68 rfl hl.1 (j_hRG hRf hRl (by omega) (by omega) rfl rfl) (Nat.le_of_ble_eq_true rfl) dL_law_646 (fun H locs jw => ?_)
        refine lv_iconst (v := 2) hx hb dL_law_649 (by decide) ?_
        refine lv_icmp_ne (tgt := 663) hx hb dL_law_650 (by decide) (fun c23 => ?_) (fun c23 => ?_)
        · rw [if_neg c23] at hE
          refine lv_iconst (v := 0) hx hb dL_law_663 (by decide) ?_
          exact absurd hE (hG0 _)
        · rw [if_pos c23] at hE
          refine lv_aload_n hx hb dL_law_653 rfl (lv_at hl 0 rfl) ?_
          refine lv_iconst (v := 3) hx hb dL_law_654 (by decide) ?_
          refine lv_iconst (v := 4) hx hb dL_law_655 (by decide) ?_
          obtain ⟨xx24, exx24, hE⟩ := j_bd hG0 hE
          try dsimp only at hE
          refine jc_vi [.int (3 : Int32), .int (4 : Int32)] [] jc jw hA k0 (by decide) rfl (c_X9_line hY k0 (M := xx16.2) exx24) sd_L_68 rfl hl.1 (j_hRG hRf hRl (by omega) (by omega) rfl rfl) (Nat.le_of_ble_eq_true rfl) dL_law_656 (fun H locs jw => ?_)
          refine lv_iconst (v := 1) hx hb dL_law_659 (by decide) ?_
          refine lv_icmp_eq (tgt := 665) hx hb dL_law_660 (by decide) (fun c25 => ?_) (fun c25 => ?_)
          · rw [if_pos c25] at hE
            exact kk xx16.2 H locs ls (Option.some.inj (j_ret eG0 hE)) jw (lv_sub hl [0, 1, 2] rfl)
          · rw [if_neg c25] at hE
            refine lv_iconst (v := 0) hx hb dL_law_663 (by decide) ?_
            exact absurd hE (hG0 _)
def sg_5 (Y : JY) (M : JM) (L : Nat) (xs : Nat → Int32) (a2 : Int32) (a8 : Int32) : Option (Int32 × JM) := if j_g (0 : Int32) (j_ln Y 144) then (lt_ (j_up M 144 (0 : Int32).toNatClampNeg (vp_nar .char (97 : Int32))) fun mm2 => if j_g (1 : Int32) (j_ln Y 144) then (lt_ (j_up mm2 144 (1 : Int32).toNatClampNeg (vp_nar .char (40 : Int32))) fun mm4 => if j_g (2 : Int32) (j_ln Y 144) then (lt_ (j_up mm4 144 (2 : Int32).toNatClampNeg (vp_nar .char (41 : Int32))) fun mm6 => (s_L_feed Y mm6 0 144).bind fun xx7 => (s_X9_readDocument Y xx7 0 (3 : Int32)).bind fun xx8 => if xx8.1 = (-102 : Int32) then ((s_X9_length Y xx8.2 0 (3 : Int32)).bind fun xx10 => if xx10 = (10 : Int32) then ((s_X9_undo Y xx8.2 0).bind fun xx12 => if xx12.1 = (3 : Int32) then ((s_X9_length Y xx12.2 0 (3 : Int32)).bind fun xx14 => if xx14 = a8 then ((s_X9_restore Y xx12.2 0).bind fun xx16 => if xx16.1 = a2 then ((s_X9_length Y xx16.2 0 (3 : Int32)).bind fun xx18 => if xx18 = 0 then ((s_X9_merge Y xx16.2 0 (0 : Int32) (0 : Int32) (0 : Int32)).bind fun xx20 => if xx20.1 = 0 then ((s_X9_mergedLength Y xx20.2 0).bind fun xx22 => (s_X9_length Y xx20.2 0 (0 : Int32)).bind fun xx23 => if xx22 = xx23 then (some ((1 : Int32), xx20.2)) else (some ((0 : Int32), xx20.2))) else (some ((0 : Int32), xx20.2))) else (some ((0 : Int32), xx16.2))) else (some ((0 : Int32), xx16.2))) else (some ((0 : Int32), xx12.2))) else (some ((0 : Int32), xx12.2))) else (some ((0 : Int32), xx8.2))) else (some ((0 : Int32), xx8.2))) else none) else none) else none
set_option maxRecDepth 100000 in
set_option maxHeartbeats 4000000 in
theorem g_5 {p : Program} {l : Launch} {e : Env} {R : Room} {s : State} {m : MethodId} {args : Array Value} {below : List Frame} {meth : Method} {c : Code} {H : Heap} {locs : List Loc} {cells slots : Nat} {Q : State → Prop} {ls : Array Slot} {D : va_G} {Y : JY} {ty : Nat → ClassId} {ad : Nat → Nat} {A : Nat → Prop} {M : JM} {L b : Nat} {xs : Nat → Int32} {a2 : Int32} {a8 : Int32} (jc : JC D Y ty p s m args c cL_law 18 jlw) (hA : ∀ q, s.heap.size ≤ q → A q) (hX : va_X b L xs s s.heap) (hbl : b < s.heap.size) (hbA : ¬ A b) (hL : L ≤ 260) (k0 : j_kd Y 0 = 9) (k144 : j_kd Y 144 = 102) (hRf : 7 ≤ R.frames) (hRl : 191 ≤ R.locals) (hRc : cells + 0 ≤ R.cells) (hRs : slots + 0 ≤ R.slots) {r : Int32 × JM} (hE : sg_5 Y M L xs a2 a8 = some r) (jw : JW D Y ty ad A s.heap M H locs) (hl : lv_has ls 18 [(1, .ref (ad 0)), (2, .int a2), (8, .int a8)]) (kk : ∀ (v : Int32) (N : JM) (H : Heap) (locs : List Loc) (ls : Array Slot) (pc : Nat), (v, N) = r → JW D Y ty ad A s.heap N H locs → decode cL_law pc = .ok (.ireturn, 1) → W p l e R s m args below meth c H locs cells slots Q (F0 m pc ls [.int v])) : W p l e R s m args below meth c H locs cells slots Q (F0 m 669 ls [.ref (ad 144), .ref (ad 0)]) := by
  have hx := jc.1
  have hb := jc.2.1
  have hY := jc.2.2.2.2.2.2
  unfold sg_5 at hE
  obtain ⟨G0, eG0, hG0, hE⟩ := j_F0o hE
  refine lv_dup hx hb dL_law_669 rfl ?_
  refine lv_iconst (v := 0) hx hb dL_law_670 (by decide) ?_
  refine lv_bipush (v := 97) hx hb dL_law_671 (by decide) ?_
  rcases Classical.em (j_g (0 : Int32) (j_ln Y 144)) with g1 | g1
  case inr => rw [if_neg g1] at hE; exact absurd hE (hG0 _)
  rw [if_pos g1] at hE
  refine jr_cast jc jw k144 (j_g_in g1) dL_law_673 (fun H locs jw => ?_)
  obtain ⟨mm2, emm2, hE⟩ := j_lv hE
  rw [← emm2] at jw
  try dsimp only at hE
  refine lv_dup hx hb dL_law_674 rfl ?_
  refine lv_iconst (v := 1) hx hb dL_law_675 (by decide) ?_
  refine lv_bipush (v := 40) hx hb dL_law_676 (by decide) ?_
  rcases Classical.em (j_g (1 : Int32) (j_ln Y 144)) with g3 | g3
  case inr => rw [if_neg g3] at hE; exact absurd hE (hG0 _)
  rw [if_pos g3] at hE
  refine jr_cast jc jw k144 (j_g_in g3) dL_law_678 (fun H locs jw => ?_)
  obtain ⟨mm4, emm4, hE⟩ := j_lv hE
  rw [← emm4] at jw
  try dsimp only at hE
  refine lv_dup hx hb dL_law_679 rfl ?_
  refine lv_iconst (v := 2) hx hb dL_law_680 (by decide) ?_
  refine lv_bipush (v := 41) hx hb dL_law_681 (by decide) ?_
  rcases Classical.em (j_g (2 : Int32) (j_ln Y 144)) with g5 | g5
  case inr => rw [if_neg g5] at hE; exact absurd hE (hG0 _)
  rw [if_pos g5] at hE
  refine jr_cast jc jw k144 (j_g_in g5) dL_law_683 (fun H locs jw => ?_)
  obtain ⟨mm6, emm6, hE⟩ := j_lv hE
  rw [← emm6] at jw
  try dsimp only at hE
  obtain ⟨xx7, exx7, hE⟩ := j_bd hG0 hE
  try dsimp only at hE
  refine jc_sv [.ref (ad 0), .ref (ad 144)] [] jc jw hA (c_L_feed hY k0 k144 (M := mm6) exx7) sd_L_95 rfl hl.1 (j_hRG hRf hRl (by omega) (by omega) rfl rfl) (Nat.le_of_ble_eq_true rfl) dL_law_684 (fun H locs jw => ?_)
  refine lv_aload_n hx hb dL_law_687 rfl (lv_at hl 0 rfl) ?_
  refine lv_iconst (v := 3) hx hb dL_law_688 (by decide) ?_
  obtain ⟨xx8, exx8, hE⟩ := j_bd hG0 hE
  try dsimp only at hE
  refine jc_vi [.int (3 : Int32)] [] jc jw hA k0 (by decide) rfl (c_X9_readDocument hY k0 (M := xx7) exx8) sd_L_98 rfl hl.1 (j_hRG hRf hRl (by omega) (by omega) rfl rfl) (Nat.le_of_ble_eq_true rfl) dL_law_689 (fun H locs jw => ?_)
  refine lv_bipush (v := -102) hx hb dL_law_692 (by decide) ?_
  refine lv_icmp_ne (tgt := 725) hx hb dL_law_694 (by decide) (fun c9 => ?_) (fun c9 => ?_)
  · rw [if_neg c9] at hE
    refine lv_iconst (v := 0) hx hb dL_law_725 (by decide) ?_
    exact kk _ _ H locs ls 726 (Option.some.inj (j_ret eG0 hE)) jw dL_law_726
  · rw [if_pos c9] at hE
    refine lv_aload_n hx hb dL_law_697 rfl (lv_at hl 0 rfl) ?_
    refine lv_iconst (v := 3) hx hb dL_law_698 (by decide) ?_
    obtain ⟨xx10, exx10, hE⟩ := j_bd hG0 hE
    try dsimp only at hE
    refine jc_vi [.int (3 : Int32)] [] jc jw hA k0 (by decide) rfl (c_X9_length hY k0 (M := xx8.2) exx10) sd_L_23 rfl hl.1 (j_hRG hRf hRl (by omega) (by omega) rfl rfl) (Nat.le_of_ble_eq_true rfl) dL_law_699 (fun H locs jw => ?_)
    refine lv_bipush (v := 10) hx hb dL_law_702 (by decide) ?_
    refine lv_icmp_ne (tgt := 725) hx hb dL_law_704 (by decide) (fun c11 => ?_) (fun c11 => ?_)
    · rw [if_neg c11] at hE
      refine lv_iconst (v := 0) hx hb dL_law_725 (by decide) ?_
      exact kk _ _ H locs ls 726 (Option.some.inj (j_ret eG0 hE)) jw dL_law_726
    · rw [if_pos c11] at hE
      refine lv_aload_n hx hb dL_law_707 rfl (lv_at hl 0 rfl) ?_
      obtain ⟨xx12, exx12, hE⟩ := j_bd hG0 hE
      try dsimp only at hE
      refine jc_vi [] [] jc jw hA k0 (by decide) rfl (c_X9_undo hY k0 (M := xx8.2) exx12) sd_L_92 rfl hl.1 (j_hRG hRf hRl (by omega) (by omega) rfl rfl) (Nat.le_of_ble_eq_true rfl) dL_law_708 (fun H locs jw => ?_)
      refine lv_iconst (v := 3) hx hb dL_law_711 (by decide) ?_
      refine lv_icmp_ne (tgt := 725) hx hb dL_law_712 (by decide) (fun c13 => ?_) (fun c13 => ?_)
      · rw [if_neg c13] at hE
        refine lv_iconst (v := 0) hx hb dL_law_725 (by decide) ?_
        exact kk _ _ H locs ls 726 (Option.some.inj (j_ret eG0 hE)) jw dL_law_726
      · rw [if_pos c13] at hE
        refine lv_aload_n hx hb dL_law_715 rfl (lv_at hl 0 rfl) ?_
        refine lv_iconst (v := 3) hx hb dL_law_716 (by decide) ?_
        obtain ⟨xx14, exx14, hE⟩ := j_bd hG0 hE
        try dsimp only at hE
        refine jc_vi [.int (3 : Int32)] [] jc jw hA k0 (by decide) rfl (c_X9_length hY k0 (M := xx12.2) exx14) sd_L_23 rfl hl.1 (j_hRG hRf hRl (by omega) (by omega) rfl rfl) (Nat.le_of_ble_eq_true rfl) dL_law_717 (fun H locs jw => ?_)
        refine lv_iload hx hb dL_law_720 (lv_at hl 2 rfl) ?_
        refine lv_icmp_eq (tgt := 727) hx hb dL_law_722 (by decide) (fun c15 => ?_) (fun c15 => ?_)
        · rw [if_pos c15] at hE
          refine lv_aload_n hx hb dL_law_727 rfl (lv_at hl 0 rfl) ?_
          obtain ⟨xx16, exx16, hE⟩ := j_bd hG0 hE
          try dsimp only at hE
          refine jc_vi [] [] jc jw hA k0 (by decide) rfl (c_X9_restore hY k0 (M := xx12.2) exx16) sd_L_101 rfl hl.1 (j_hRG hRf hRl (by omega) (by omega) rfl rfl) (Nat.le_of_ble_eq_true rfl) dL_law_728 (fun H locs jw => ?_)
          refine lv_iload_n hx hb dL_law_731 rfl (lv_at hl 1 rfl) ?_
          refine lv_icmp_ne (tgt := 769) hx hb dL_law_732 (by decide) (fun c17 => ?_) (fun c17 => ?_)
          · rw [if_neg c17] at hE
            refine lv_iconst (v := 0) hx hb dL_law_769 (by decide) ?_
            exact kk _ _ H locs ls 770 (Option.some.inj (j_ret eG0 hE)) jw dL_law_770
          · rw [if_pos c17] at hE
            refine lv_aload_n hx hb dL_law_735 rfl (lv_at hl 0 rfl) ?_
            refine lv_iconst (v := 3) hx hb dL_law_736 (by decide) ?_
            obtain ⟨xx18, exx18, hE⟩ := j_bd hG0 hE
            try dsimp only at hE
            refine jc_vi [.int (3 : Int32)] [] jc jw hA k0 (by decide) rfl (c_X9_length hY k0 (M := xx16.2) exx18) sd_L_23 rfl hl.1 (j_hRG hRf hRl (by omega) (by omega) rfl rfl) (Nat.le_of_ble_eq_true rfl) dL_law_737 (fun H locs jw => ?_)
            refine lv_if_ne (tgt := 769) hx hb dL_law_740 (by decide) (fun c19 => ?_) (fun c19 => ?_)
            · rw [if_neg c19] at hE
              refine lv_iconst (v := 0) hx hb dL_law_769 (by decide) ?_
              exact kk _ _ H locs ls 770 (Option.some.inj (j_ret eG0 hE)) jw dL_law_770
            · rw [if_pos c19] at hE
              refine lv_aload_n hx hb dL_law_743 rfl (lv_at hl 0 rfl) ?_
              refine lv_iconst (v := 0) hx hb dL_law_744 (by decide) ?_
              refine lv_iconst (v := 0) hx hb dL_law_745 (by decide) ?_
              refine lv_iconst (v := 0) hx hb dL_law_746 (by decide) ?_
              obtain ⟨xx20, exx20, hE⟩ := j_bd hG0 hE
              try dsimp only at hE
              refine jc_vi [.int (0 : Int32), .int (0 : Int32), .int (0 : Int32)] [] jc jw hA k0 (by decide) rfl (c_X9_merge hY k0 (M := xx16.2) exx20) sd_L_104 rfl hl.1 (j_hRG hRf hRl (by omega) (by omega) rfl rfl) (Nat.le_of_ble_eq_true rfl) dL_law_747 (fun H locs jw => ?_)
              refine lv_if_ne (tgt := 769) hx hb dL_law_750 (by decide) (fun c21 => ?_) (fun c21 => ?_)
              · rw [if_neg c21] at hE
                refine lv_iconst (v := 0) hx hb dL_law_769 (by decide) ?_
                exact kk _ _ H locs ls 770 (Option.some.inj (j_ret eG0 hE)) jw dL_law_770
              · rw [if_pos c21] at hE
                refine lv_aload_n hx hb dL_law_753 rfl (lv_at hl 0 rfl) ?_
                obtain ⟨xx22, exx22, hE⟩ := j_bd hG0 hE
                try dsimp only at hE
                refine jc_vi [] [] jc jw hA k0 (by decide) rfl (c_X9_mergedLength hY k0 (M := xx20.2) exx22) sd_L_107 rfl hl.1 (j_hRG hRf hRl (by omega) (by omega) rfl rfl) (Nat.le_of_ble_eq_true rfl) dL_law_754 (fun H locs jw => ?_)
                refine lv_aload_n hx hb dL_law_757 rfl (lv_at hl 0 rfl) ?_
                refine lv_iconst (v := 0) hx hb dL_law_758 (by decide) ?_
                obtain ⟨xx23, exx23, hE⟩ := j_bd hG0 hE
                try dsimp only at hE
                refine jc_vi [.int (0 : Int32)] [.int xx22] jc jw hA k0 (by decide) rfl (c_X9_length hY k0 (M := xx20.2) exx23) sd_L_23 rfl hl.1 (j_hRG hRf hRl (by omega) (by omega) rfl rfl) (Nat.le_of_ble_eq_true rfl) dL_law_759 (fun H locs jw => ?_)
                refine lv_icmp_ne (tgt := 769) hx hb dL_law_762 (by decide) (fun c24 => ?_) (fun c24 => ?_)
                · rw [if_neg c24] at hE
                  refine lv_iconst (v := 0) hx hb dL_law_769 (by decide) ?_
                  exact kk _ _ H locs ls 770 (Option.some.inj (j_ret eG0 hE)) jw dL_law_770
                · rw [if_pos c24] at hE
                  refine lv_iconst (v := 1) hx hb dL_law_765 (by decide) ?_
                  refine lv_goto (tgt := 770) hx hb dL_law_766 (by decide) ?_
                  exact kk _ _ H locs ls 770 (Option.some.inj (j_ret eG0 hE)) jw dL_law_770
        · rw [if_neg c15] at hE
          refine lv_iconst (v := 0) hx hb dL_law_725 (by decide) ?_
          exact kk _ _ H locs ls 726 (Option.some.inj (j_ret eG0 hE)) jw dL_law_726

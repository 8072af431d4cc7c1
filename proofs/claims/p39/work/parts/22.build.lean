def lp_gb_2 (Y : JY) (L : Nat) (xs : (Nat → Int32)) (vv2 : Int32) (n : Nat) (vv14 : Int32) (mm15 : JM) : Option (JM) := match n with
  | 0 => none
  | n + 1 => if (Int32.ofNat L) ≤ vv14 ∨ (9 : Int32) ≤ vv14 then (some mm15) else (if j_g vv14 L then (lt_ ((1 : Int32) + ((xs vv14.toNatClampNeg) &&& (1 : Int32))) fun vv19 => (s_X9_length Y mm15 0 vv19).bind fun xx20 => if j_g vv14 L then (if ¬ (xx20 + (1 : Int32)) = 0 then (lt_ ((((xs vv14.toNatClampNeg) >>> ((1 : Int32) &&& 31)) &&& (31 : Int32)) - (((xs vv14.toNatClampNeg) >>> ((1 : Int32) &&& 31)) &&& (31 : Int32)) / (xx20 + (1 : Int32)) * (xx20 + (1 : Int32))) fun vv23 => if j_g vv14 L then ((if ¬ ((((xs vv14.toNatClampNeg) >>> ((6 : Int32) &&& 31)) &&& (3 : Int32)) = 0) ∨ xx20 ≤ 0 then (if (20 : Int32) ≤ xx20 then (some mm15) else (if j_g vv14 L then (if ¬ (vv2 + (2 : Int32)) = 0 then ((s_X9_insert Y mm15 0 vv19 vv23 ((((xs vv14.toNatClampNeg) >>> ((8 : Int32) &&& 31)) &&& (15 : Int32)) - (((xs vv14.toNatClampNeg) >>> ((8 : Int32) &&& 31)) &&& (15 : Int32)) / (vv2 + (2 : Int32)) * (vv2 + (2 : Int32)))).bind fun xx31 => some xx31.2) else none) else none)) else (if ¬ xx20 = 0 then ((s_X9_delete Y mm15 0 vv19 (vv23 - vv23 / xx20 * xx20)).bind fun xx33 => some xx33.2) else none)).bind fun xx37 => lt_ (vv14 + (1 : Int32)) fun vv36 => lp_gb_2 Y L xs vv2 n vv36 xx37) else none) else none) else none) else none)
def lp_gb_1 (Y : JY) (vv1 : Int32) (vv2 : Int32) (L : Nat) (xs : (Nat → Int32)) (n : Nat) (vv4 : Int32) (mm5 : JM) : Option (JM) := match n with
  | 0 => none
  | n + 1 => if vv1 ≤ vv4 then (some mm5) else (if ¬ vv2 = 0 then ((s_X9_append Y mm5 0 (0 : Int32) ((((sc_at L xs (1 : Int32)) >>> (((2 : Int32) * vv4) &&& 31)) &&& (15 : Int32)) - (((sc_at L xs (1 : Int32)) >>> (((2 : Int32) * vv4) &&& 31)) &&& (15 : Int32)) / vv2 * vv2)).bind fun xx8 => lt_ (vv4 + (1 : Int32)) fun vv9 => lp_gb_1 Y vv1 vv2 L xs n vv9 xx8.2) else none)
def sg_b (Y : JY) (M : JM) (L : Nat) (xs : Nat → Int32)  : Option (JM) := lt_ (((sc_at L xs (0 : Int32)) &&& (15 : Int32)) - ((sc_at L xs (0 : Int32)) &&& (15 : Int32)) / (12 : Int32) * (12 : Int32)) fun vv1 => lt_ ((2 : Int32) + (((sc_at L xs (0 : Int32)) >>> ((4 : Int32) &&& 31)) &&& (7 : Int32))) fun vv2 => (lp_gb_1 Y vv1 vv2 L xs j_fuel (0 : Int32) M).bind fun xx48 => (s_X9_copy Y xx48 0 (0 : Int32) (1 : Int32)).bind fun xx11 => (s_X9_copy Y xx11.2 0 (0 : Int32) (2 : Int32)).bind fun xx12 => (lp_gb_2 Y L xs vv2 j_fuel (2 : Int32) xx12.2).bind fun xx47 => (s_X9_setMode Y xx47 0 (((sc_at L xs (0 : Int32)) >>> ((7 : Int32) &&& 31)) &&& (1 : Int32))).bind fun xx40 => lt_ (if (((sc_at L xs (0 : Int32)) >>> ((8 : Int32) &&& 31)) &&& (1 : Int32)) = 0 then ((1 : Int32)) else ((0 : Int32))) fun xx46 => (s_X9_setShrinking Y xx40.2 0 xx46).bind fun xx44 => some xx44.2
set_option maxRecDepth 100000 in
set_option maxHeartbeats 4000000 in
theorem g_b {p : Program} {l : Launch} {e : Env} {R : Room} {s : State} {m : MethodId} {args : Array Value} {below : List Frame} {meth : Method} {c : Code} {H : Heap} {locs : List Loc} {cells slots : Nat} {Q : State → Prop} {ls : Array Slot} {D : va_G} {Y : JY} {ty : Nat → ClassId} {ad : Nat → Nat} {A : Nat → Prop} {M : JM} {L b : Nat} {xs : Nat → Int32}  (jc : JC D Y ty p s m args c cL_build 8 jlw) (hA : ∀ q, s.heap.size ≤ q → A q) (hX : va_X b L xs s s.heap) (hbl : b < s.heap.size) (hbA : ¬ A b) (hL : L ≤ 260) (k0 : j_kd Y 0 = 9) (hRf : 6 ≤ R.frames) (hRl : 134 ≤ R.locals) (hRc : cells + 0 ≤ R.cells) (hRs : slots + 0 ≤ R.slots) {r : JM} (hE : sg_b Y M L xs  = some r) (jw : JW D Y ty ad A s.heap M H locs) (hl : lv_has ls 8 [(0, .ref b), (1, .ref (ad 0))]) (kk : ∀ (N : JM) (H : Heap) (locs : List Loc) (ls : Array Slot), N = r → JW D Y ty ad A s.heap N H locs → lv_has ls 8 [(1, .ref (ad 0))] → W p l e R s m args below meth c H locs cells slots Q (F0 m 240 ls [])) : W p l e R s m args below meth c H locs cells slots Q (F0 m 8 ls []) := by
  have hx := jc.1
  have hb := jc.2.1
  have hY := jc.2.2.2.2.2.2
  unfold sg_b at hE
  obtain ⟨G0, eG0, hG0, hE⟩ := j_F0o hE
  refine lv_aload_n hx hb dL_build_8 rfl (lv_at hl 0 rfl) ?_
  refine lv_iconst (v := 0) hx hb dL_build_9 (by decide) ?_
  refine jl_at (k := (0 : Int32)) [] jc hX hbl hbA jw hA hL (by decide) sd_L_10 hl.1 (j_hRG hRf hRl (by omega) (by omega) rfl rfl) (Nat.le_of_ble_eq_true rfl) dL_build_10 (fun H locs jw => ?_)
  refine lv_bipush (v := 15) hx hb dL_build_13 (by decide) ?_
  refine lv_iand hx hb dL_build_15 ?_
  refine lv_bipush (v := 12) hx hb dL_build_16 (by decide) ?_
  refine lv_irem hx hb dL_build_18 (by decide) ?_
  refine lv_topi (fun vv1 evv1 => ?_)
  replace hE := j_lu hE evv1
  try dsimp only at hE
  refine lv_istore_n (lv' := [(2, .int vv1), (0, .ref b), (1, .ref (ad 0))]) hx hb dL_build_19 rfl hl (by decide) rfl (fun ls hl => ?_)
  refine lv_iconst (v := 2) hx hb dL_build_20 (by decide) ?_
  refine lv_aload_n hx hb dL_build_21 rfl (lv_at hl 1 rfl) ?_
  refine lv_iconst (v := 0) hx hb dL_build_22 (by decide) ?_
  refine jl_at (k := (0 : Int32)) [.int (2 : Int32)] jc hX hbl hbA jw hA hL (by decide) sd_L_10 hl.1 (j_hRG hRf hRl (by omega) (by omega) rfl rfl) (Nat.le_of_ble_eq_true rfl) dL_build_23 (fun H locs jw => ?_)
  refine lv_iconst (v := 4) hx hb dL_build_26 (by decide) ?_
  refine lv_ishr hx hb dL_build_27 ?_
  refine lv_bipush (v := 7) hx hb dL_build_28 (by decide) ?_
  refine lv_iand hx hb dL_build_30 ?_
  refine lv_iadd hx hb dL_build_31 ?_
  refine lv_topi (fun vv2 evv2 => ?_)
  replace hE := j_lu hE evv2
  try dsimp only at hE
  refine lv_istore_n (lv' := [(3, .int vv2), (2, .int vv1), (0, .ref b), (1, .ref (ad 0))]) hx hb dL_build_32 rfl hl (by decide) rfl (fun ls hl => ?_)
  refine lv_iconst (v := 0) hx hb dL_build_33 (by decide) ?_
  refine lv_istore (lv' := [(4, .int (0 : Int32)), (3, .int vv2), (2, .int vv1), (0, .ref b), (1, .ref (ad 0))]) hx hb dL_build_34 hl (by decide) rfl (fun ls hl => ?_)
  obtain ⟨G3, eG3, hG3, hE⟩ := j_ctxB hG0 hE
  have E3_69 : ∀ (mm10 : JM)  (H : Heap) (locs : List Loc) (ls : Array Slot), G3 (some mm10) = some r → JW D Y ty ad A s.heap mm10 H locs → lv_has ls 8 [(3, .int vv2), (0, .ref b), (1, .ref (ad 0))] → W p l e R s m args below meth c H locs cells slots Q (F0 m 69 ls []) := by
    intro mm10  H locs ls hE jw hl
    replace hE := j_popB eG3 hE
    try dsimp only at hE
    refine lv_aload_n hx hb dL_build_69 rfl (lv_at hl 2 rfl) ?_
    refine lv_iconst (v := 0) hx hb dL_build_70 (by decide) ?_
    refine lv_iconst (v := 1) hx hb dL_build_71 (by decide) ?_
    obtain ⟨xx11, exx11, hE⟩ := j_bd hG0 hE
    try dsimp only at hE
    refine jc_vi [.int (0 : Int32), .int (1 : Int32)] [] jc jw hA k0 (by decide) rfl (c_X9_copy hY k0 (M := mm10) exx11) sd_L_20 rfl hl.1 (j_hRG hRf hRl (by omega) (by omega) rfl rfl) (Nat.le_of_ble_eq_true rfl) dL_build_72 (fun H locs jw => ?_)
    refine lv_pop hx hb dL_build_75 rfl ?_
    refine lv_aload_n hx hb dL_build_76 rfl (lv_at hl 2 rfl) ?_
    refine lv_iconst (v := 0) hx hb dL_build_77 (by decide) ?_
    refine lv_iconst (v := 2) hx hb dL_build_78 (by decide) ?_
    obtain ⟨xx12, exx12, hE⟩ := j_bd hG0 hE
    try dsimp only at hE
    refine jc_vi [.int (0 : Int32), .int (2 : Int32)] [] jc jw hA k0 (by decide) rfl (c_X9_copy hY k0 (M := xx11.2) exx12) sd_L_20 rfl hl.1 (j_hRG hRf hRl (by omega) (by omega) rfl rfl) (Nat.le_of_ble_eq_true rfl) dL_build_79 (fun H locs jw => ?_)
    refine lv_pop hx hb dL_build_82 rfl ?_
    refine lv_iconst (v := 2) hx hb dL_build_83 (by decide) ?_
    refine lv_istore (lv' := [(4, .int (2 : Int32)), (3, .int vv2), (0, .ref b), (1, .ref (ad 0))]) hx hb dL_build_84 hl (by decide) rfl (fun ls hl => ?_)
    obtain ⟨G13, eG13, hG13, hE⟩ := j_ctxB hG0 hE
    have E13_202 : ∀ (mm39 : JM)  (H : Heap) (locs : List Loc) (ls : Array Slot), G13 (some mm39) = some r → JW D Y ty ad A s.heap mm39 H locs → lv_has ls 8 [(0, .ref b), (1, .ref (ad 0))] → W p l e R s m args below meth c H locs cells slots Q (F0 m 202 ls []) := by
      intro mm39  H locs ls hE jw hl
      replace hE := j_popB eG13 hE
      try dsimp only at hE
      refine lv_aload_n hx hb dL_build_202 rfl (lv_at hl 1 rfl) ?_
      refine lv_aload_n hx hb dL_build_203 rfl (lv_at hl 0 rfl) ?_
      refine lv_iconst (v := 0) hx hb dL_build_204 (by decide) ?_
      refine jl_at (k := (0 : Int32)) [.ref (ad 0)] jc hX hbl hbA jw hA hL (by decide) sd_L_10 hl.1 (j_hRG hRf hRl (by omega) (by omega) rfl rfl) (Nat.le_of_ble_eq_true rfl) dL_build_205 (fun H locs jw => ?_)
      refine lv_bipush (v := 7) hx hb dL_build_208 (by decide) ?_
      refine lv_ishr hx hb dL_build_210 ?_
      refine lv_iconst (v := 1) hx hb dL_build_211 (by decide) ?_
      refine lv_iand hx hb dL_build_212 ?_
      obtain ⟨xx40, exx40, hE⟩ := j_bd hG0 hE
      try dsimp only at hE
      refine jc_vi [.int (((sc_at L xs (0 : Int32)) >>> ((7 : Int32) &&& 31)) &&& (1 : Int32))] [] jc jw hA k0 (by decide) rfl (c_X9_setMode hY k0 (M := mm39) exx40) sd_L_34 rfl hl.1 (j_hRG hRf hRl (by omega) (by omega) rfl rfl) (Nat.le_of_ble_eq_true rfl) dL_build_213 (fun H locs jw => ?_)
      refine lv_pop hx hb dL_build_216 rfl ?_
      refine lv_aload_n hx hb dL_build_217 rfl (lv_at hl 1 rfl) ?_
      refine lv_aload_n hx hb dL_build_218 rfl (lv_at hl 0 rfl) ?_
      refine lv_iconst (v := 0) hx hb dL_build_219 (by decide) ?_
      refine jl_at (k := (0 : Int32)) [.ref (ad 0)] jc hX hbl hbA jw hA hL (by decide) sd_L_10 hl.1 (j_hRG hRf hRl (by omega) (by omega) rfl rfl) (Nat.le_of_ble_eq_true rfl) dL_build_220 (fun H locs jw => ?_)
      refine lv_bipush (v := 8) hx hb dL_build_223 (by decide) ?_
      refine lv_ishr hx hb dL_build_225 ?_
      refine lv_iconst (v := 1) hx hb dL_build_226 (by decide) ?_
      refine lv_iand hx hb dL_build_227 ?_
      obtain ⟨G42, eG42, hE⟩ := j_ctxL hE
      have J42 : ∀ (vv43 : Int32)  (H : Heap) (locs : List Loc) (ls : Array Slot), G42 (vv43) = some r → JW D Y ty ad A s.heap xx40.2 H locs → lv_has ls 8 [(1, .ref (ad 0))] → W p l e R s m args below meth c H locs cells slots Q (F0 m 236 ls [.int vv43, .ref (ad 0)]) := by
        intro vv43  H locs ls hE jw hl
        replace hE := j_popL eG42 hE
        try dsimp only at hE
        obtain ⟨xx44, exx44, hE⟩ := j_bd hG0 hE
        try dsimp only at hE
        refine jc_vz [.int vv43] [] jc jw hA k0 (by decide) rfl (c_X9_setShrinking hY k0 (M := xx40.2) exx44) sd_L_37 rfl hl.1 (j_hRG hRf hRl (by omega) (by omega) rfl rfl) (Nat.le_of_ble_eq_true rfl) dL_build_236 (fun H locs jw hz => ?_)
        have z_45 := hz
        refine lv_pop hx hb dL_build_239 rfl ?_
        exact kk xx44.2 H locs ls (Option.some.inj (j_ret eG0 hE)) jw (lv_sub hl [0] rfl)
      refine lv_if_ne (tgt := 235) hx hb dL_build_228 (by decide) (fun c41 => ?_) (fun c41 => ?_)
      · rw [if_neg c41] at hE
        refine lv_iconst (v := 0) hx hb dL_build_235 (by decide) ?_
        exact J42 (0 : Int32)  H locs ls hE jw (lv_sub hl [1] rfl)
      · rw [if_pos c41] at hE
        refine lv_iconst (v := 1) hx hb dL_build_231 (by decide) ?_
        refine lv_goto (tgt := 236) hx hb dL_build_232 (by decide) ?_
        exact J42 (1 : Int32)  H locs ls hE jw (lv_sub hl [1] rfl)
    have LP13 : ∀ (n : Nat) (vv14 : Int32) (mm15 : JM) (H : Heap) (locs : List Loc) (ls : Array Slot), G13 (lp_gb_2 Y L xs vv2 n vv14 mm15) = some r → JW D Y ty ad A s.heap mm15 H locs → lv_has ls 8 [(4, .int vv14), (3, .int vv2), (0, .ref b), (1, .ref (ad 0))] → W p l e R s m args below meth c H locs cells slots Q (F0 m 86 ls []) := by
      intro n
      induction n with
      | zero => intro vv14 mm15 H locs ls hE jw hl; exact absurd hE (hG13 _)
      | succ n ih =>
        intro vv14 mm15 H locs ls hE jw hl
        rw [lp_gb_2] at hE
        refine lv_iload hx hb dL_build_86 (lv_at hl 0 rfl) ?_
        refine lv_aload_n hx hb dL_build_88 rfl (lv_at hl 2 rfl) ?_
        refine va_slen hx hb hX hbl hbA jw.2.2 dL_build_89 ?_
        have B38 : ∀ (H : Heap) (locs : List Loc), JW D Y ty ad A s.heap mm15 H locs → ((Int32.ofNat L) ≤ vv14 ∨ (9 : Int32) ≤ vv14) → W p l e R s m args below meth c H locs cells slots Q (F0 m 202 ls []) := by
          intro H locs jw hcc
          rw [if_pos hcc] at hE
          exact E13_202 mm15  H locs ls hE jw (lv_sub hl [2, 3] rfl)
        refine lv_icmp_ge (tgt := 202) hx hb dL_build_90 (by decide) (fun c16 => B38 _ _ jw (Or.inl c16)) (fun c16 => ?_)
        refine lv_iload hx hb dL_build_93 (lv_at hl 0 rfl) ?_
        refine lv_bipush (v := 9) hx hb dL_build_95 (by decide) ?_
        refine lv_icmp_ge (tgt := 202) hx hb dL_build_97 (by decide) (fun c17 => B38 _ _ jw (Or.inr c17)) (fun c17 => ?_)
        rw [if_neg (fun hq => hq.elim (fun hq => (j_abs c16 hq)) (fun hq => (j_abs c17 hq)))] at hE
        refine lv_iconst (v := 1) hx hb dL_build_100 (by decide) ?_
        refine lv_aload_n hx hb dL_build_101 rfl (lv_at hl 2 rfl) ?_
        refine lv_iload hx hb dL_build_102 (lv_at hl 0 rfl) ?_
        rcases Classical.em (j_g vv14 L) with g18 | g18
        case inr => rw [if_neg g18] at hE; exact absurd hE (hG13 _)
        rw [if_pos g18] at hE
        refine va_sld hx hb hX hbl hbA jw.2.2 (j_g_in g18) dL_build_104 ?_
        refine lv_iconst (v := 1) hx hb dL_build_105 (by decide) ?_
        refine lv_iand hx hb dL_build_106 ?_
        refine lv_iadd hx hb dL_build_107 ?_
        refine lv_topi (fun vv19 evv19 => ?_)
        replace hE := j_lu hE evv19
        try dsimp only at hE
        refine lv_istore (lv' := [(5, .int vv19), (4, .int vv14), (3, .int vv2), (0, .ref b), (1, .ref (ad 0))]) hx hb dL_build_108 hl (by decide) rfl (fun ls hl => ?_)
        refine lv_aload_n hx hb dL_build_110 rfl (lv_at hl 4 rfl) ?_
        refine lv_iload hx hb dL_build_111 (lv_at hl 0 rfl) ?_
        obtain ⟨xx20, exx20, hE⟩ := j_bd hG13 hE
        try dsimp only at hE
        refine jc_vi [.int vv19] [] jc jw hA k0 (by decide) rfl (c_X9_length hY k0 (M := mm15) exx20) sd_L_23 rfl hl.1 (j_hRG hRf hRl (by omega) (by omega) rfl rfl) (Nat.le_of_ble_eq_true rfl) dL_build_113 (fun H locs jw => ?_)
        refine lv_istore (lv' := [(6, .int xx20), (5, .int vv19), (4, .int vv14), (3, .int vv2), (0, .ref b), (1, .ref (ad 0))]) hx hb dL_build_116 hl (by decide) rfl (fun ls hl => ?_)
        refine lv_aload_n hx hb dL_build_118 rfl (lv_at hl 4 rfl) ?_
        refine lv_iload hx hb dL_build_119 (lv_at hl 2 rfl) ?_
        rcases Classical.em (j_g vv14 L) with g21 | g21
        case inr => rw [if_neg g21] at hE; exact absurd hE (hG13 _)
        rw [if_pos g21] at hE
        refine va_sld hx hb hX hbl hbA jw.2.2 (j_g_in g21) dL_build_121 ?_
        refine lv_iconst (v := 1) hx hb dL_build_122 (by decide) ?_
        refine lv_ishr hx hb dL_build_123 ?_
        refine lv_bipush (v := 31) hx hb dL_build_124 (by decide) ?_
        refine lv_iand hx hb dL_build_126 ?_
        refine lv_iload hx hb dL_build_127 (lv_at hl 0 rfl) ?_
        refine lv_iconst (v := 1) hx hb dL_build_129 (by decide) ?_
        refine lv_iadd hx hb dL_build_130 ?_
        rcases Classical.em (¬ (xx20 + (1 : Int32)) = 0) with g22 | g22
        case inr => rw [if_neg g22] at hE; exact absurd hE (hG13 _)
        rw [if_pos g22] at hE
        refine lv_irem hx hb dL_build_131 g22 ?_
        refine lv_topi (fun vv23 evv23 => ?_)
        replace hE := j_lu hE evv23
        try dsimp only at hE
        refine lv_istore (lv' := [(7, .int vv23), (6, .int xx20), (5, .int vv19), (4, .int vv14), (3, .int vv2), (0, .ref b), (1, .ref (ad 0))]) hx hb dL_build_132 hl (by decide) rfl (fun ls hl => ?_)
        refine lv_aload_n hx hb dL_build_134 rfl (lv_at hl 5 rfl) ?_
        refine lv_iload hx hb dL_build_135 (lv_at hl 3 rfl) ?_
        rcases Classical.em (j_g vv14 L) with g24 | g24
        case inr => rw [if_neg g24] at hE; exact absurd hE (hG13 _)
        rw [if_pos g24] at hE
        refine va_sld hx hb hX hbl hbA jw.2.2 (j_g_in g24) dL_build_137 ?_
        refine lv_bipush (v := 6) hx hb dL_build_138 (by decide) ?_
        refine lv_ishr hx hb dL_build_140 ?_
        refine lv_iconst (v := 3) hx hb dL_build_141 (by decide) ?_
        refine lv_iand hx hb dL_build_142 ?_
        obtain ⟨G27, eG27, hG27, hE⟩ := j_ctxB hG13 hE
        have J27 : ∀ (mm35 : JM)  (H : Heap) (locs : List Loc) (ls : Array Slot), G27 (some mm35) = some r → JW D Y ty ad A s.heap mm35 H locs → lv_has ls 8 [(4, .int vv14), (3, .int vv2), (0, .ref b), (1, .ref (ad 0))] → W p l e R s m args below meth c H locs cells slots Q (F0 m 196 ls []) := by
          intro mm35  H locs ls hE jw hl
          replace hE := j_popB eG27 hE
          try dsimp only at hE
          obtain ⟨vv36, evv36, hE⟩ := j_lv hE
          try dsimp only at hE
          refine lv_iinc (v := vv36) (lv' := [(4, .int vv36), (3, .int vv2), (0, .ref b), (1, .ref (ad 0))]) hx hb dL_build_196 hl (k := 0) rfl (by rw [evv36]; rfl) (by decide) rfl (fun ls hl => ?_)
          refine lv_goto (tgt := 86) hx hb dL_build_199 (by decide) ?_
          exact ih vv36 mm35 H locs ls hE jw (lv_sub hl [0, 1, 2, 3] rfl)
        have B34 : ∀ (H : Heap) (locs : List Loc), JW D Y ty ad A s.heap mm15 H locs → (¬ ((((xs vv14.toNatClampNeg) >>> ((6 : Int32) &&& 31)) &&& (3 : Int32)) = 0) ∨ xx20 ≤ 0) → W p l e R s m args below meth c H locs cells slots Q (F0 m 166 ls []) := by
          intro H locs jw hcc
          rw [if_pos hcc] at hE
          refine lv_iload hx hb dL_build_166 (lv_at hl 1 rfl) ?_
          refine lv_bipush (v := 20) hx hb dL_build_168 (by decide) ?_
          refine lv_icmp_ge (tgt := 196) hx hb dL_build_170 (by decide) (fun c28 => ?_) (fun c28 => ?_)
          · rw [if_pos c28] at hE
            exact J27 mm15  H locs ls hE jw (lv_sub hl [3, 4, 5, 6] rfl)
          · rw [if_neg c28] at hE
            refine lv_aload_n hx hb dL_build_173 rfl (lv_at hl 6 rfl) ?_
            refine lv_iload hx hb dL_build_174 (lv_at hl 2 rfl) ?_
            refine lv_iload hx hb dL_build_176 (lv_at hl 0 rfl) ?_
            refine lv_aload_n hx hb dL_build_178 rfl (lv_at hl 5 rfl) ?_
            refine lv_iload hx hb dL_build_179 (lv_at hl 3 rfl) ?_
            rcases Classical.em (j_g vv14 L) with g29 | g29
            case inr => rw [if_neg g29] at hE; exact absurd hE (hG27 _)
            rw [if_pos g29] at hE
            refine va_sld hx hb hX hbl hbA jw.2.2 (j_g_in g29) dL_build_181 ?_
            refine lv_bipush (v := 8) hx hb dL_build_182 (by decide) ?_
            refine lv_ishr hx hb dL_build_184 ?_
            refine lv_bipush (v := 15) hx hb dL_build_185 (by decide) ?_
            refine lv_iand hx hb dL_build_187 ?_
            refine lv_iload_n hx hb dL_build_188 rfl (lv_at hl 4 rfl) ?_
            refine lv_iconst (v := 2) hx hb dL_build_189 (by decide) ?_
            refine lv_iadd hx hb dL_build_190 ?_
            rcases Classical.em (¬ (vv2 + (2 : Int32)) = 0) with g30 | g30
            case inr => rw [if_neg g30] at hE; exact absurd hE (hG27 _)
            rw [if_pos g30] at hE
            refine lv_irem hx hb dL_build_191 g30 ?_
            obtain ⟨xx31, exx31, hE⟩ := j_bd hG27 hE
            try dsimp only at hE
            refine jc_vi [.int vv19, .int vv23, .int ((((xs vv14.toNatClampNeg) >>> ((8 : Int32) &&& 31)) &&& (15 : Int32)) - (((xs vv14.toNatClampNeg) >>> ((8 : Int32) &&& 31)) &&& (15 : Int32)) / (vv2 + (2 : Int32)) * (vv2 + (2 : Int32)))] [] jc jw hA k0 (by decide) rfl (c_X9_insert hY k0 (M := mm15) exx31) sd_L_30 rfl hl.1 (j_hRG hRf hRl (by omega) (by omega) rfl rfl) (Nat.le_of_ble_eq_true rfl) dL_build_192 (fun H locs jw => ?_)
            refine lv_pop hx hb dL_build_195 rfl ?_
            exact J27 xx31.2  H locs ls hE jw (lv_sub hl [3, 4, 5, 6] rfl)
        refine lv_if_ne (tgt := 166) hx hb dL_build_143 (by decide) (fun c25 => B34 _ _ jw (Or.inl c25)) (fun c25 => ?_)
        refine lv_iload hx hb dL_build_146 (lv_at hl 1 rfl) ?_
        refine lv_if_le (tgt := 166) hx hb dL_build_148 (by decide) (fun c26 => B34 _ _ jw (Or.inr c26)) (fun c26 => ?_)
        rw [if_neg (fun hq => hq.elim (fun hq => (j_absn c25 hq)) (fun hq => (j_abs c26 hq)))] at hE
        refine lv_aload_n hx hb dL_build_151 rfl (lv_at hl 6 rfl) ?_
        refine lv_iload hx hb dL_build_152 (lv_at hl 2 rfl) ?_
        refine lv_iload hx hb dL_build_154 (lv_at hl 0 rfl) ?_
        refine lv_iload hx hb dL_build_156 (lv_at hl 1 rfl) ?_
        rcases Classical.em (¬ xx20 = 0) with g32 | g32
        case inr => rw [if_neg g32] at hE; exact absurd hE (hG27 _)
        rw [if_pos g32] at hE
        refine lv_irem hx hb dL_build_158 g32 ?_
        obtain ⟨xx33, exx33, hE⟩ := j_bd hG27 hE
        try dsimp only at hE
        refine jc_vi [.int vv19, .int (vv23 - vv23 / xx20 * xx20)] [] jc jw hA k0 (by decide) rfl (c_X9_delete hY k0 (M := mm15) exx33) sd_L_27 rfl hl.1 (j_hRG hRf hRl (by omega) (by omega) rfl rfl) (Nat.le_of_ble_eq_true rfl) dL_build_159 (fun H locs jw => ?_)
        refine lv_pop hx hb dL_build_162 rfl ?_
        refine lv_goto (tgt := 196) hx hb dL_build_163 (by decide) ?_
        exact J27 xx33.2  H locs ls hE jw (lv_sub hl [3, 4, 5, 6] rfl)
    exact LP13 j_fuel (2 : Int32) xx12.2 H locs ls hE jw (lv_sub hl [0, 1, 2, 3] rfl)
  have LP3 : ∀ (n : Nat) (vv4 : Int32) (mm5 : JM) (H : Heap) (locs : List Loc) (ls : Array Slot), G3 (lp_gb_1 Y vv1 vv2 L xs n vv4 mm5) = some r → JW D Y ty ad A s.heap mm5 H locs → lv_has ls 8 [(4, .int vv4), (3, .int vv2), (2, .int vv1), (0, .ref b), (1, .ref (ad 0))] → W p l e R s m args below meth c H locs cells slots Q (F0 m 36 ls []) := by
    intro n
    induction n with
    | zero => intro vv4 mm5 H locs ls hE jw hl; exact absurd hE (hG3 _)
    | succ n ih =>
      intro vv4 mm5 H locs ls hE jw hl
      rw [lp_gb_1] at hE
      refine lv_iload hx hb dL_build_36 (lv_at hl 0 rfl) ?_
      refine lv_iload_n hx hb dL_build_38 rfl (lv_at hl 2 rfl) ?_
      refine lv_icmp_ge (tgt := 69) hx hb dL_build_39 (by decide) (fun c6 => ?_) (fun c6 => ?_)
      · rw [if_pos c6] at hE
        exact E3_69 mm5  H locs ls hE jw (lv_sub hl [1, 3, 4] rfl)
      · rw [if_neg c6] at hE
        refine lv_aload_n hx hb dL_build_42 rfl (lv_at hl 4 rfl) ?_
        refine lv_iconst (v := 0) hx hb dL_build_43 (by decide) ?_
        refine lv_aload_n hx hb dL_build_44 rfl (lv_at hl 3 rfl) ?_
        refine lv_iconst (v := 1) hx hb dL_build_45 (by decide) ?_
        refine jl_at (k := (1 : Int32)) [.int (0 : Int32), .ref (ad 0)] jc hX hbl hbA jw hA hL (by decide) sd_L_10 hl.1 (j_hRG hRf hRl (by omega) (by omega) rfl rfl) (Nat.le_of_ble_eq_true rfl) dL_build_46 (fun H locs jw => ?_)
        refine lv_iconst (v := 2) hx hb dL_build_49 (by decide) ?_
        refine lv_iload hx hb dL_build_50 (lv_at hl 0 rfl) ?_
        refine lv_imul hx hb dL_build_52 ?_
        refine lv_ishr hx hb dL_build_53 ?_
        refine lv_bipush (v := 15) hx hb dL_build_54 (by decide) ?_
        refine lv_iand hx hb dL_build_56 ?_
        refine lv_iload_n hx hb dL_build_57 rfl (lv_at hl 1 rfl) ?_
        rcases Classical.em (¬ vv2 = 0) with g7 | g7
        case inr => rw [if_neg g7] at hE; exact absurd hE (hG3 _)
        rw [if_pos g7] at hE
        refine lv_irem hx hb dL_build_58 g7 ?_
        obtain ⟨xx8, exx8, hE⟩ := j_bd hG3 hE
        try dsimp only at hE
        refine jc_vi [.int (0 : Int32), .int ((((sc_at L xs (1 : Int32)) >>> (((2 : Int32) * vv4) &&& 31)) &&& (15 : Int32)) - (((sc_at L xs (1 : Int32)) >>> (((2 : Int32) * vv4) &&& 31)) &&& (15 : Int32)) / vv2 * vv2)] [] jc jw hA k0 (by decide) rfl (c_X9_append hY k0 (M := mm5) exx8) sd_L_16 rfl hl.1 (j_hRG hRf hRl (by omega) (by omega) rfl rfl) (Nat.le_of_ble_eq_true rfl) dL_build_59 (fun H locs jw => ?_)
        refine lv_pop hx hb dL_build_62 rfl ?_
        obtain ⟨vv9, evv9, hE⟩ := j_lv hE
        try dsimp only at hE
        refine lv_iinc (v := vv9) (lv' := [(4, .int vv9), (3, .int vv2), (2, .int vv1), (0, .ref b), (1, .ref (ad 0))]) hx hb dL_build_63 hl (k := 0) rfl (by rw [evv9]; rfl) (by decide) rfl (fun ls hl => ?_)
        refine lv_goto (tgt := 36) hx hb dL_build_66 (by decide) ?_
        exact ih vv9 xx8.2 H locs ls hE jw (lv_sub hl [0, 1, 2, 3, 4] rfl)
  exact LP3 j_fuel (0 : Int32) M H locs ls hE jw (lv_sub hl [0, 1, 2, 3, 4] rfl)

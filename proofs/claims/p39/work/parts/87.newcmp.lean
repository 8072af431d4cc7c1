/-! ===== constructors: Comparison, Merge, Patch ===== -/
theorem bX0 : ∀ j, j < 7 → defaultValue (tyX0 j) = vp_V [.null, .null, .null, .null, .null, .int 0, .int 0] j := fun j hj => match j, hj with
  | 0, _ => rfl
  | 1, _ => rfl
  | 2, _ => rfl
  | 3, _ => rfl
  | 4, _ => rfl
  | 5, _ => rfl
  | 6, _ => rfl
  | k + 7, h => absurd h (by omega)
def tl_X1 : List (JY × JM) := [(yt_L 24, mt_0), (yt_L 24, mt_0), (yt_X0, mt_X0), (yt_T 100, mt_T 4), (yt_L 48, mt_0), (yt_T 72, mt_T 3), (yt_L 24, mt_0), (yt_L 24, mt_0)]
def yt_X1 : JY := yt_tree 1 tl_X1
def mt_X1 : JM := mt_tree (fun _ => 0) tl_X1
theorem tl_X1_cl : ∀ t ∈ tl_X1, yt_cl t.1 := List.forall_mem_cons.mpr ⟨yt_L_cl, List.forall_mem_cons.mpr ⟨yt_L_cl, List.forall_mem_cons.mpr ⟨yt_X0_cl, List.forall_mem_cons.mpr ⟨yt_T_cl, List.forall_mem_cons.mpr ⟨yt_L_cl, List.forall_mem_cons.mpr ⟨yt_T_cl, List.forall_mem_cons.mpr ⟨yt_L_cl, List.forall_mem_cons.mpr ⟨yt_L_cl, fun _ h => absurd h List.not_mem_nil⟩⟩⟩⟩⟩⟩⟩⟩
theorem yt_X1_cl : yt_cl yt_X1 := yt_tree_cl tl_X1_cl
set_option maxRecDepth 20000 in
theorem c_X1_init {D : va_G} {ty : Nat → ClassId} {l : Launch} {a sz : Nat} : JN D ty l yX1_init cX1_init 1 3 68 25 1071 1 a sz [.null, .null, .null, .null, .null, .null, .null, .null, .int 0] [] yt_X1 mt_X1 := by
  refine jn_of (ix := 3) (by decide) rfl (Nat.le_of_ble_eq_true rfl) dX1_init_0 dX1_init_1 wd_4_54 (by decide) (by decide) (fun p e s m below meth c args R Q A hRf hRl hRc hRs hnm jn hA w kr ls hl => ?_)
  have hx := jn.1
  have hb := jn.2.1
  have hl : lv_has ls 1 [(0, .ref a)] := hl
  refine lv_aload_n hx hb dX1_init_4 rfl (lv_at hl 0 rfl) ?_
  refine jn_new (C := RX4) (T := TX4) (N := 2) (ci := 4) (fs := [.null, .int 0]) jn w hA rfl jin_4 tyX4 tyX4_ok wd_4_55 wd_3_182 wd_1_3 bX4 ⟨by omega, by omega⟩ dX1_init_5 (fun q0 H0a v0 => ?_)
  refine lv_dup hx hb dX1_init_8 rfl ?_
  refine lv_bipush (v := nI 24) hx hb dX1_init_9 (by decide) ?_
  refine jn_call (As := [.int (nI 24)]) (rest := [.ref q0, .ref a]) jn v0 hA (c_X4_init (n := 24) (by decide)) ⟨⟨wd_3_185, wd_1_3, wd_4_56, by decide⟩, rfl, wd_3_184⟩ rfl hl.1 ⟨by omega, by omega, by omega, by omega⟩ (Nat.le_of_ble_eq_true rfl) dX1_init_11 (fun ad0 H0b L0b e0 u0 => ?_)
  subst e0
  refine jn_putF (C := RX1) (T := TX1) (N := 9) (k := 0) (ci := 1) jn hnm u0 rfl jin_1 tyX1 tyX1_ok nmX1 (by decide) wd_4_61 rfl rfl rfl rfl (Nat.le_of_ble_eq_true rfl) dX1_init_14 (fun H0 L0 w0 => ?_)
  refine lv_aload_n hx hb dX1_init_17 rfl (lv_at hl 0 rfl) ?_
  refine jn_new (C := RX4) (T := TX4) (N := 2) (ci := 4) (fs := [.null, .int 0]) jn w0 hA rfl jin_4 tyX4 tyX4_ok wd_4_55 wd_3_182 wd_1_3 bX4 ⟨by omega, by omega⟩ dX1_init_18 (fun q1 H1a v1 => ?_)
  refine lv_dup hx hb dX1_init_21 rfl ?_
  refine lv_bipush (v := nI 24) hx hb dX1_init_22 (by decide) ?_
  refine jn_call (As := [.int (nI 24)]) (rest := [.ref q1, .ref a]) jn v1 hA (c_X4_init (n := 24) (by decide)) ⟨⟨wd_3_185, wd_1_3, wd_4_56, by decide⟩, rfl, wd_3_184⟩ rfl hl.1 ⟨by omega, by omega, by omega, by omega⟩ (Nat.le_of_ble_eq_true rfl) dX1_init_24 (fun ad1 H1b L1b e1 u1 => ?_)
  subst e1
  refine jn_putF (C := RX1) (T := TX1) (N := 9) (k := 1) (ci := 1) jn hnm u1 rfl jin_1 tyX1 tyX1_ok nmX1 (by decide) wd_4_62 rfl rfl rfl rfl (Nat.le_of_ble_eq_true rfl) dX1_init_27 (fun H1 L1 w1 => ?_)
  refine lv_aload_n hx hb dX1_init_30 rfl (lv_at hl 0 rfl) ?_
  refine jn_new (C := RX0) (T := TX0) (N := 7) (ci := 0) (fs := [.null, .null, .null, .null, .null, .int 0, .int 0]) jn w1 hA rfl jin_0 tyX0 tyX0_ok wd_4_57 wd_2_29 wd_1_6 bX0 ⟨by omega, by omega⟩ dX1_init_31 (fun q2 H2a v2 => ?_)
  refine lv_dup hx hb dX1_init_34 rfl ?_
  refine jn_call (As := []) (rest := [.ref q2, .ref a]) jn v2 hA (c_X0_init) ⟨⟨wd_4_7, wd_1_6, wd_4_58, by decide⟩, rfl, wd_4_6⟩ rfl hl.1 ⟨by omega, by omega, by omega, by omega⟩ (Nat.le_of_ble_eq_true rfl) dX1_init_35 (fun ad2 H2b L2b e2 u2 => ?_)
  subst e2
  refine jn_putF (C := RX1) (T := TX1) (N := 9) (k := 2) (ci := 1) jn hnm u2 rfl jin_1 tyX1 tyX1_ok nmX1 (by decide) wd_4_63 rfl rfl rfl rfl (Nat.le_of_ble_eq_true rfl) dX1_init_38 (fun H2 L2 w2 => ?_)
  refine lv_aload_n hx hb dX1_init_41 rfl (lv_at hl 0 rfl) ?_
  refine jn_new (C := RX8) (T := TX8) (N := 3) (ci := 8) (fs := [.null, .int 0, .int 0]) jn w2 hA rfl jin_8 tyX8 tyX8_ok wd_4_59 wd_4_12 wd_1_7 bX8 ⟨by omega, by omega⟩ dX1_init_42 (fun q3 H3a v3 => ?_)
  refine lv_dup hx hb dX1_init_45 rfl ?_
  refine lv_bipush (v := nI 25) hx hb dX1_init_46 (by decide) ?_
  refine lv_iconst (v := nI 4) hx hb dX1_init_48 (by decide) ?_
  refine jn_call (As := [.int (nI 25), .int (nI 4)]) (rest := [.ref q3, .ref a]) jn v3 hA (c_X8_init (r := 25) (k := 4) (by decide)) ⟨⟨wd_4_15, wd_1_7, wd_4_60, by decide⟩, rfl, wd_4_14⟩ rfl hl.1 ⟨by omega, by omega, by omega, by omega⟩ (Nat.le_of_ble_eq_true rfl) dX1_init_49 (fun ad3 H3b L3b e3 u3 => ?_)
  subst e3
  refine jn_putF (C := RX1) (T := TX1) (N := 9) (k := 3) (ci := 1) jn hnm u3 rfl jin_1 tyX1 tyX1_ok nmX1 (by decide) wd_4_64 rfl rfl rfl rfl (Nat.le_of_ble_eq_true rfl) dX1_init_52 (fun H3 L3 w3 => ?_)
  refine lv_aload_n hx hb dX1_init_55 rfl (lv_at hl 0 rfl) ?_
  refine jn_new (C := RX4) (T := TX4) (N := 2) (ci := 4) (fs := [.null, .int 0]) jn w3 hA rfl jin_4 tyX4 tyX4_ok wd_4_55 wd_3_182 wd_1_3 bX4 ⟨by omega, by omega⟩ dX1_init_56 (fun q4 H4a v4 => ?_)
  refine lv_dup hx hb dX1_init_59 rfl ?_
  refine lv_bipush (v := nI 48) hx hb dX1_init_60 (by decide) ?_
  refine jn_call (As := [.int (nI 48)]) (rest := [.ref q4, .ref a]) jn v4 hA (c_X4_init (n := 48) (by decide)) ⟨⟨wd_3_185, wd_1_3, wd_4_56, by decide⟩, rfl, wd_3_184⟩ rfl hl.1 ⟨by omega, by omega, by omega, by omega⟩ (Nat.le_of_ble_eq_true rfl) dX1_init_62 (fun ad4 H4b L4b e4 u4 => ?_)
  subst e4
  refine jn_putF (C := RX1) (T := TX1) (N := 9) (k := 4) (ci := 1) jn hnm u4 rfl jin_1 tyX1 tyX1_ok nmX1 (by decide) wd_4_65 rfl rfl rfl rfl (Nat.le_of_ble_eq_true rfl) dX1_init_65 (fun H4 L4 w4 => ?_)
  refine lv_aload_n hx hb dX1_init_68 rfl (lv_at hl 0 rfl) ?_
  refine jn_new (C := RX8) (T := TX8) (N := 3) (ci := 8) (fs := [.null, .int 0, .int 0]) jn w4 hA rfl jin_8 tyX8 tyX8_ok wd_4_59 wd_4_12 wd_1_7 bX8 ⟨by omega, by omega⟩ dX1_init_69 (fun q5 H5a v5 => ?_)
  refine lv_dup hx hb dX1_init_72 rfl ?_
  refine lv_bipush (v := nI 24) hx hb dX1_init_73 (by decide) ?_
  refine lv_iconst (v := nI 3) hx hb dX1_init_75 (by decide) ?_
  refine jn_call (As := [.int (nI 24), .int (nI 3)]) (rest := [.ref q5, .ref a]) jn v5 hA (c_X8_init (r := 24) (k := 3) (by decide)) ⟨⟨wd_4_15, wd_1_7, wd_4_60, by decide⟩, rfl, wd_4_14⟩ rfl hl.1 ⟨by omega, by omega, by omega, by omega⟩ (Nat.le_of_ble_eq_true rfl) dX1_init_76 (fun ad5 H5b L5b e5 u5 => ?_)
  subst e5
  refine jn_putF (C := RX1) (T := TX1) (N := 9) (k := 5) (ci := 1) jn hnm u5 rfl jin_1 tyX1 tyX1_ok nmX1 (by decide) wd_4_66 rfl rfl rfl rfl (Nat.le_of_ble_eq_true rfl) dX1_init_79 (fun H5 L5 w5 => ?_)
  refine lv_aload_n hx hb dX1_init_82 rfl (lv_at hl 0 rfl) ?_
  refine jn_new (C := RX4) (T := TX4) (N := 2) (ci := 4) (fs := [.null, .int 0]) jn w5 hA rfl jin_4 tyX4 tyX4_ok wd_4_55 wd_3_182 wd_1_3 bX4 ⟨by omega, by omega⟩ dX1_init_83 (fun q6 H6a v6 => ?_)
  refine lv_dup hx hb dX1_init_86 rfl ?_
  refine lv_bipush (v := nI 24) hx hb dX1_init_87 (by decide) ?_
  refine jn_call (As := [.int (nI 24)]) (rest := [.ref q6, .ref a]) jn v6 hA (c_X4_init (n := 24) (by decide)) ⟨⟨wd_3_185, wd_1_3, wd_4_56, by decide⟩, rfl, wd_3_184⟩ rfl hl.1 ⟨by omega, by omega, by omega, by omega⟩ (Nat.le_of_ble_eq_true rfl) dX1_init_89 (fun ad6 H6b L6b e6 u6 => ?_)
  subst e6
  refine jn_putF (C := RX1) (T := TX1) (N := 9) (k := 6) (ci := 1) jn hnm u6 rfl jin_1 tyX1 tyX1_ok nmX1 (by decide) wd_4_67 rfl rfl rfl rfl (Nat.le_of_ble_eq_true rfl) dX1_init_92 (fun H6 L6 w6 => ?_)
  refine lv_aload_n hx hb dX1_init_95 rfl (lv_at hl 0 rfl) ?_
  refine jn_new (C := RX4) (T := TX4) (N := 2) (ci := 4) (fs := [.null, .int 0]) jn w6 hA rfl jin_4 tyX4 tyX4_ok wd_4_55 wd_3_182 wd_1_3 bX4 ⟨by omega, by omega⟩ dX1_init_96 (fun q7 H7a v7 => ?_)
  refine lv_dup hx hb dX1_init_99 rfl ?_
  refine lv_bipush (v := nI 24) hx hb dX1_init_100 (by decide) ?_
  refine jn_call (As := [.int (nI 24)]) (rest := [.ref q7, .ref a]) jn v7 hA (c_X4_init (n := 24) (by decide)) ⟨⟨wd_3_185, wd_1_3, wd_4_56, by decide⟩, rfl, wd_3_184⟩ rfl hl.1 ⟨by omega, by omega, by omega, by omega⟩ (Nat.le_of_ble_eq_true rfl) dX1_init_102 (fun ad7 H7b L7b e7 u7 => ?_)
  subst e7
  refine jn_putF (C := RX1) (T := TX1) (N := 9) (k := 7) (ci := 1) jn hnm u7 rfl jin_1 tyX1 tyX1_ok nmX1 (by decide) wd_4_68 rfl rfl rfl rfl (Nat.le_of_ble_eq_true rfl) dX1_init_105 (fun H7 L7 w7 => ?_)
  have hT : ((((((((([] : va_W) ++ j_w (yt_L 24) ty ad0 (mt_0)) ++ j_w (yt_L 24) ty ad1 (mt_0)) ++ j_w (yt_X0) ty ad2 (mt_X0)) ++ j_w (yt_T 100) ty ad3 (mt_T 4)) ++ j_w (yt_L 48) ty ad4 (mt_0)) ++ j_w (yt_T 72) ty ad5 (mt_T 3)) ++ j_w (yt_L 24) ty ad6 (mt_0)) ++ j_w (yt_L 24) ty ad7 (mt_0)) = wt_f ty tl_X1 [ad0, ad1, ad2, ad3, ad4, ad5, ad6, ad7] := by
    simp only [wt_f, tl_X1, List.nil_append, List.append_nil, List.append_assoc]
  have w9 : JNW D A s.heap (j_w yt_X1 ty (at_tree a tl_X1 [ad0, ad1, ad2, ad3, ad4, ad5, ad6, ad7]) mt_X1) H7 L7 := by
    have e9 := wt_tree (ty := ty) (c := 1) (a := a) (T := tl_X1) (fs := [ad0, ad1, ad2, ad3, ad4, ad5, ad6, ad7]) (M0 := fun _ => 0) rfl tl_X1_cl
    unfold yt_X1 mt_X1
    rw [e9, ← hT]
    exact w7
  exact kr _ _ _ _ _ _ (at_tree a tl_X1 [ad0, ad1, ad2, ad3, ad4, ad5, ad6, ad7]) rfl w9 rfl rfl dX1_init_108
def tl_X6 : List (JY × JM) := [(yt_L 24, mt_0), (yt_L 24, mt_0), (yt_T 150, mt_T 6), (yt_T 50, mt_T 2), (yt_T 50, mt_T 2), (yt_L 96, mt_0)]
def yt_X6 : JY := yt_tree 6 tl_X6
def mt_X6 : JM := mt_tree (fun _ => 0) tl_X6
theorem tl_X6_cl : ∀ t ∈ tl_X6, yt_cl t.1 := List.forall_mem_cons.mpr ⟨yt_L_cl, List.forall_mem_cons.mpr ⟨yt_L_cl, List.forall_mem_cons.mpr ⟨yt_T_cl, List.forall_mem_cons.mpr ⟨yt_T_cl, List.forall_mem_cons.mpr ⟨yt_T_cl, List.forall_mem_cons.mpr ⟨yt_L_cl, fun _ h => absurd h List.not_mem_nil⟩⟩⟩⟩⟩⟩
theorem yt_X6_cl : yt_cl yt_X6 := yt_tree_cl tl_X6_cl
set_option maxRecDepth 20000 in
theorem c_X6_init {D : va_G} {ty : Nat → ClassId} {l : Launch} {a sz : Nat} : JN D ty l yX6_init cX6_init 1 2 35 12 409 6 a sz [.null, .null, .null, .null, .null, .null, .int 0, .int 0, .int 0] [] yt_X6 mt_X6 := by
  refine jn_of (ix := 3) (by decide) rfl (Nat.le_of_ble_eq_true rfl) dX6_init_0 dX6_init_1 wd_4_132 (by decide) (by decide) (fun p e s m below meth c args R Q A hRf hRl hRc hRs hnm jn hA w kr ls hl => ?_)
  have hx := jn.1
  have hb := jn.2.1
  have hl : lv_has ls 1 [(0, .ref a)] := hl
  refine lv_aload_n hx hb dX6_init_4 rfl (lv_at hl 0 rfl) ?_
  refine jn_new (C := RX4) (T := TX4) (N := 2) (ci := 4) (fs := [.null, .int 0]) jn w hA rfl jin_4 tyX4 tyX4_ok wd_4_133 wd_3_182 wd_1_3 bX4 ⟨by omega, by omega⟩ dX6_init_5 (fun q0 H0a v0 => ?_)
  refine lv_dup hx hb dX6_init_8 rfl ?_
  refine lv_bipush (v := nI 24) hx hb dX6_init_9 (by decide) ?_
  refine jn_call (As := [.int (nI 24)]) (rest := [.ref q0, .ref a]) jn v0 hA (c_X4_init (n := 24) (by decide)) ⟨⟨wd_3_185, wd_1_3, wd_4_134, by decide⟩, rfl, wd_3_184⟩ rfl hl.1 ⟨by omega, by omega, by omega, by omega⟩ (Nat.le_of_ble_eq_true rfl) dX6_init_11 (fun ad0 H0b L0b e0 u0 => ?_)
  subst e0
  refine jn_putF (C := RX6) (T := TX6) (N := 9) (k := 0) (ci := 6) jn hnm u0 rfl jin_6 tyX6 tyX6_ok nmX6 (by decide) wd_4_137 rfl rfl rfl rfl (Nat.le_of_ble_eq_true rfl) dX6_init_14 (fun H0 L0 w0 => ?_)
  refine lv_aload_n hx hb dX6_init_17 rfl (lv_at hl 0 rfl) ?_
  refine jn_new (C := RX4) (T := TX4) (N := 2) (ci := 4) (fs := [.null, .int 0]) jn w0 hA rfl jin_4 tyX4 tyX4_ok wd_4_133 wd_3_182 wd_1_3 bX4 ⟨by omega, by omega⟩ dX6_init_18 (fun q1 H1a v1 => ?_)
  refine lv_dup hx hb dX6_init_21 rfl ?_
  refine lv_bipush (v := nI 24) hx hb dX6_init_22 (by decide) ?_
  refine jn_call (As := [.int (nI 24)]) (rest := [.ref q1, .ref a]) jn v1 hA (c_X4_init (n := 24) (by decide)) ⟨⟨wd_3_185, wd_1_3, wd_4_134, by decide⟩, rfl, wd_3_184⟩ rfl hl.1 ⟨by omega, by omega, by omega, by omega⟩ (Nat.le_of_ble_eq_true rfl) dX6_init_24 (fun ad1 H1b L1b e1 u1 => ?_)
  subst e1
  refine jn_putF (C := RX6) (T := TX6) (N := 9) (k := 1) (ci := 6) jn hnm u1 rfl jin_6 tyX6 tyX6_ok nmX6 (by decide) wd_4_138 rfl rfl rfl rfl (Nat.le_of_ble_eq_true rfl) dX6_init_27 (fun H1 L1 w1 => ?_)
  refine lv_aload_n hx hb dX6_init_30 rfl (lv_at hl 0 rfl) ?_
  refine jn_new (C := RX8) (T := TX8) (N := 3) (ci := 8) (fs := [.null, .int 0, .int 0]) jn w1 hA rfl jin_8 tyX8 tyX8_ok wd_4_135 wd_4_12 wd_1_7 bX8 ⟨by omega, by omega⟩ dX6_init_31 (fun q2 H2a v2 => ?_)
  refine lv_dup hx hb dX6_init_34 rfl ?_
  refine lv_bipush (v := nI 25) hx hb dX6_init_35 (by decide) ?_
  refine lv_bipush (v := nI 6) hx hb dX6_init_37 (by decide) ?_
  refine jn_call (As := [.int (nI 25), .int (nI 6)]) (rest := [.ref q2, .ref a]) jn v2 hA (c_X8_init (r := 25) (k := 6) (by decide)) ⟨⟨wd_4_15, wd_1_7, wd_4_136, by decide⟩, rfl, wd_4_14⟩ rfl hl.1 ⟨by omega, by omega, by omega, by omega⟩ (Nat.le_of_ble_eq_true rfl) dX6_init_39 (fun ad2 H2b L2b e2 u2 => ?_)
  subst e2
  refine jn_putF (C := RX6) (T := TX6) (N := 9) (k := 2) (ci := 6) jn hnm u2 rfl jin_6 tyX6 tyX6_ok nmX6 (by decide) wd_4_139 rfl rfl rfl rfl (Nat.le_of_ble_eq_true rfl) dX6_init_42 (fun H2 L2 w2 => ?_)
  refine lv_aload_n hx hb dX6_init_45 rfl (lv_at hl 0 rfl) ?_
  refine jn_new (C := RX8) (T := TX8) (N := 3) (ci := 8) (fs := [.null, .int 0, .int 0]) jn w2 hA rfl jin_8 tyX8 tyX8_ok wd_4_135 wd_4_12 wd_1_7 bX8 ⟨by omega, by omega⟩ dX6_init_46 (fun q3 H3a v3 => ?_)
  refine lv_dup hx hb dX6_init_49 rfl ?_
  refine lv_bipush (v := nI 25) hx hb dX6_init_50 (by decide) ?_
  refine lv_iconst (v := nI 2) hx hb dX6_init_52 (by decide) ?_
  refine jn_call (As := [.int (nI 25), .int (nI 2)]) (rest := [.ref q3, .ref a]) jn v3 hA (c_X8_init (r := 25) (k := 2) (by decide)) ⟨⟨wd_4_15, wd_1_7, wd_4_136, by decide⟩, rfl, wd_4_14⟩ rfl hl.1 ⟨by omega, by omega, by omega, by omega⟩ (Nat.le_of_ble_eq_true rfl) dX6_init_53 (fun ad3 H3b L3b e3 u3 => ?_)
  subst e3
  refine jn_putF (C := RX6) (T := TX6) (N := 9) (k := 3) (ci := 6) jn hnm u3 rfl jin_6 tyX6 tyX6_ok nmX6 (by decide) wd_4_140 rfl rfl rfl rfl (Nat.le_of_ble_eq_true rfl) dX6_init_56 (fun H3 L3 w3 => ?_)
  refine lv_aload_n hx hb dX6_init_59 rfl (lv_at hl 0 rfl) ?_
  refine jn_new (C := RX8) (T := TX8) (N := 3) (ci := 8) (fs := [.null, .int 0, .int 0]) jn w3 hA rfl jin_8 tyX8 tyX8_ok wd_4_135 wd_4_12 wd_1_7 bX8 ⟨by omega, by omega⟩ dX6_init_60 (fun q4 H4a v4 => ?_)
  refine lv_dup hx hb dX6_init_63 rfl ?_
  refine lv_bipush (v := nI 25) hx hb dX6_init_64 (by decide) ?_
  refine lv_iconst (v := nI 2) hx hb dX6_init_66 (by decide) ?_
  refine jn_call (As := [.int (nI 25), .int (nI 2)]) (rest := [.ref q4, .ref a]) jn v4 hA (c_X8_init (r := 25) (k := 2) (by decide)) ⟨⟨wd_4_15, wd_1_7, wd_4_136, by decide⟩, rfl, wd_4_14⟩ rfl hl.1 ⟨by omega, by omega, by omega, by omega⟩ (Nat.le_of_ble_eq_true rfl) dX6_init_67 (fun ad4 H4b L4b e4 u4 => ?_)
  subst e4
  refine jn_putF (C := RX6) (T := TX6) (N := 9) (k := 4) (ci := 6) jn hnm u4 rfl jin_6 tyX6 tyX6_ok nmX6 (by decide) wd_4_141 rfl rfl rfl rfl (Nat.le_of_ble_eq_true rfl) dX6_init_70 (fun H4 L4 w4 => ?_)
  refine lv_aload_n hx hb dX6_init_73 rfl (lv_at hl 0 rfl) ?_
  refine jn_new (C := RX4) (T := TX4) (N := 2) (ci := 4) (fs := [.null, .int 0]) jn w4 hA rfl jin_4 tyX4 tyX4_ok wd_4_133 wd_3_182 wd_1_3 bX4 ⟨by omega, by omega⟩ dX6_init_74 (fun q5 H5a v5 => ?_)
  refine lv_dup hx hb dX6_init_77 rfl ?_
  refine lv_bipush (v := nI 96) hx hb dX6_init_78 (by decide) ?_
  refine jn_call (As := [.int (nI 96)]) (rest := [.ref q5, .ref a]) jn v5 hA (c_X4_init (n := 96) (by decide)) ⟨⟨wd_3_185, wd_1_3, wd_4_134, by decide⟩, rfl, wd_3_184⟩ rfl hl.1 ⟨by omega, by omega, by omega, by omega⟩ (Nat.le_of_ble_eq_true rfl) dX6_init_80 (fun ad5 H5b L5b e5 u5 => ?_)
  subst e5
  refine jn_putF (C := RX6) (T := TX6) (N := 9) (k := 5) (ci := 6) jn hnm u5 rfl jin_6 tyX6 tyX6_ok nmX6 (by decide) wd_4_142 rfl rfl rfl rfl (Nat.le_of_ble_eq_true rfl) dX6_init_83 (fun H5 L5 w5 => ?_)
  have hT : ((((((([] : va_W) ++ j_w (yt_L 24) ty ad0 (mt_0)) ++ j_w (yt_L 24) ty ad1 (mt_0)) ++ j_w (yt_T 150) ty ad2 (mt_T 6)) ++ j_w (yt_T 50) ty ad3 (mt_T 2)) ++ j_w (yt_T 50) ty ad4 (mt_T 2)) ++ j_w (yt_L 96) ty ad5 (mt_0)) = wt_f ty tl_X6 [ad0, ad1, ad2, ad3, ad4, ad5] := by
    simp only [wt_f, tl_X6, List.nil_append, List.append_nil, List.append_assoc]
  have w9 : JNW D A s.heap (j_w yt_X6 ty (at_tree a tl_X6 [ad0, ad1, ad2, ad3, ad4, ad5]) mt_X6) H5 L5 := by
    have e9 := wt_tree (ty := ty) (c := 6) (a := a) (T := tl_X6) (fs := [ad0, ad1, ad2, ad3, ad4, ad5]) (M0 := fun _ => 0) rfl tl_X6_cl
    unfold yt_X6 mt_X6
    rw [e9, ← hT]
    exact w5
  exact kr _ _ _ _ _ _ (at_tree a tl_X6 [ad0, ad1, ad2, ad3, ad4, ad5]) rfl w9 rfl rfl dX6_init_86
def tl_X5 : List (JY × JM) := [(yt_L 24, mt_0), (yt_L 24, mt_0), (yt_L 24, mt_0), (yt_X0, mt_X0), (yt_X0, mt_X0), (yt_T 800, mt_T 8), (yt_L 100, mt_0), (yt_L 192, mt_0)]
def yt_X5 : JY := yt_tree 5 tl_X5
def mt_X5 : JM := mt_tree (fun _ => 0) tl_X5
theorem tl_X5_cl : ∀ t ∈ tl_X5, yt_cl t.1 := List.forall_mem_cons.mpr ⟨yt_L_cl, List.forall_mem_cons.mpr ⟨yt_L_cl, List.forall_mem_cons.mpr ⟨yt_L_cl, List.forall_mem_cons.mpr ⟨yt_X0_cl, List.forall_mem_cons.mpr ⟨yt_X0_cl, List.forall_mem_cons.mpr ⟨yt_T_cl, List.forall_mem_cons.mpr ⟨yt_L_cl, List.forall_mem_cons.mpr ⟨yt_L_cl, fun _ h => absurd h List.not_mem_nil⟩⟩⟩⟩⟩⟩⟩⟩
theorem yt_X5_cl : yt_cl yt_X5 := yt_tree_cl tl_X5_cl
set_option maxRecDepth 20000 in
theorem c_X5_init {D : va_G} {ty : Nat → ClassId} {l : Launch} {a sz : Nat} : JN D ty l yX5_init cX5_init 1 3 68 34 2655 5 a sz [.null, .null, .null, .null, .null, .null, .null, .null, .int 0] [] yt_X5 mt_X5 := by
  refine jn_of (ix := 3) (by decide) rfl (Nat.le_of_ble_eq_true rfl) dX5_init_0 dX5_init_1 wd_4_93 (by decide) (by decide) (fun p e s m below meth c args R Q A hRf hRl hRc hRs hnm jn hA w kr ls hl => ?_)
  have hx := jn.1
  have hb := jn.2.1
  have hl : lv_has ls 1 [(0, .ref a)] := hl
  refine lv_aload_n hx hb dX5_init_4 rfl (lv_at hl 0 rfl) ?_
  refine jn_new (C := RX4) (T := TX4) (N := 2) (ci := 4) (fs := [.null, .int 0]) jn w hA rfl jin_4 tyX4 tyX4_ok wd_4_94 wd_3_182 wd_1_3 bX4 ⟨by omega, by omega⟩ dX5_init_5 (fun q0 H0a v0 => ?_)
  refine lv_dup hx hb dX5_init_8 rfl ?_
  refine lv_bipush (v := nI 24) hx hb dX5_init_9 (by decide) ?_
  refine jn_call (As := [.int (nI 24)]) (rest := [.ref q0, .ref a]) jn v0 hA (c_X4_init (n := 24) (by decide)) ⟨⟨wd_3_185, wd_1_3, wd_4_95, by decide⟩, rfl, wd_3_184⟩ rfl hl.1 ⟨by omega, by omega, by omega, by omega⟩ (Nat.le_of_ble_eq_true rfl) dX5_init_11 (fun ad0 H0b L0b e0 u0 => ?_)
  subst e0
  refine jn_putF (C := RX5) (T := TX5) (N := 9) (k := 0) (ci := 5) jn hnm u0 rfl jin_5 tyX5 tyX5_ok nmX5 (by decide) wd_4_100 rfl rfl rfl rfl (Nat.le_of_ble_eq_true rfl) dX5_init_14 (fun H0 L0 w0 => ?_)
  refine lv_aload_n hx hb dX5_init_17 rfl (lv_at hl 0 rfl) ?_
  refine jn_new (C := RX4) (T := TX4) (N := 2) (ci := 4) (fs := [.null, .int 0]) jn w0 hA rfl jin_4 tyX4 tyX4_ok wd_4_94 wd_3_182 wd_1_3 bX4 ⟨by omega, by omega⟩ dX5_init_18 (fun q1 H1a v1 => ?_)
  refine lv_dup hx hb dX5_init_21 rfl ?_
  refine lv_bipush (v := nI 24) hx hb dX5_init_22 (by decide) ?_
  refine jn_call (As := [.int (nI 24)]) (rest := [.ref q1, .ref a]) jn v1 hA (c_X4_init (n := 24) (by decide)) ⟨⟨wd_3_185, wd_1_3, wd_4_95, by decide⟩, rfl, wd_3_184⟩ rfl hl.1 ⟨by omega, by omega, by omega, by omega⟩ (Nat.le_of_ble_eq_true rfl) dX5_init_24 (fun ad1 H1b L1b e1 u1 => ?_)
  subst e1
  refine jn_putF (C := RX5) (T := TX5) (N := 9) (k := 1) (ci := 5) jn hnm u1 rfl jin_5 tyX5 tyX5_ok nmX5 (by decide) wd_4_101 rfl rfl rfl rfl (Nat.le_of_ble_eq_true rfl) dX5_init_27 (fun H1 L1 w1 => ?_)
  refine lv_aload_n hx hb dX5_init_30 rfl (lv_at hl 0 rfl) ?_
  refine jn_new (C := RX4) (T := TX4) (N := 2) (ci := 4) (fs := [.null, .int 0]) jn w1 hA rfl jin_4 tyX4 tyX4_ok wd_4_94 wd_3_182 wd_1_3 bX4 ⟨by omega, by omega⟩ dX5_init_31 (fun q2 H2a v2 => ?_)
  refine lv_dup hx hb dX5_init_34 rfl ?_
  refine lv_bipush (v := nI 24) hx hb dX5_init_35 (by decide) ?_
  refine jn_call (As := [.int (nI 24)]) (rest := [.ref q2, .ref a]) jn v2 hA (c_X4_init (n := 24) (by decide)) ⟨⟨wd_3_185, wd_1_3, wd_4_95, by decide⟩, rfl, wd_3_184⟩ rfl hl.1 ⟨by omega, by omega, by omega, by omega⟩ (Nat.le_of_ble_eq_true rfl) dX5_init_37 (fun ad2 H2b L2b e2 u2 => ?_)
  subst e2
  refine jn_putF (C := RX5) (T := TX5) (N := 9) (k := 2) (ci := 5) jn hnm u2 rfl jin_5 tyX5 tyX5_ok nmX5 (by decide) wd_4_102 rfl rfl rfl rfl (Nat.le_of_ble_eq_true rfl) dX5_init_40 (fun H2 L2 w2 => ?_)
  refine lv_aload_n hx hb dX5_init_43 rfl (lv_at hl 0 rfl) ?_
  refine jn_new (C := RX0) (T := TX0) (N := 7) (ci := 0) (fs := [.null, .null, .null, .null, .null, .int 0, .int 0]) jn w2 hA rfl jin_0 tyX0 tyX0_ok wd_4_96 wd_2_29 wd_1_6 bX0 ⟨by omega, by omega⟩ dX5_init_44 (fun q3 H3a v3 => ?_)
  refine lv_dup hx hb dX5_init_47 rfl ?_
  refine jn_call (As := []) (rest := [.ref q3, .ref a]) jn v3 hA (c_X0_init) ⟨⟨wd_4_7, wd_1_6, wd_4_97, by decide⟩, rfl, wd_4_6⟩ rfl hl.1 ⟨by omega, by omega, by omega, by omega⟩ (Nat.le_of_ble_eq_true rfl) dX5_init_48 (fun ad3 H3b L3b e3 u3 => ?_)
  subst e3
  refine jn_putF (C := RX5) (T := TX5) (N := 9) (k := 3) (ci := 5) jn hnm u3 rfl jin_5 tyX5 tyX5_ok nmX5 (by decide) wd_4_103 rfl rfl rfl rfl (Nat.le_of_ble_eq_true rfl) dX5_init_51 (fun H3 L3 w3 => ?_)
  refine lv_aload_n hx hb dX5_init_54 rfl (lv_at hl 0 rfl) ?_
  refine jn_new (C := RX0) (T := TX0) (N := 7) (ci := 0) (fs := [.null, .null, .null, .null, .null, .int 0, .int 0]) jn w3 hA rfl jin_0 tyX0 tyX0_ok wd_4_96 wd_2_29 wd_1_6 bX0 ⟨by omega, by omega⟩ dX5_init_55 (fun q4 H4a v4 => ?_)
  refine lv_dup hx hb dX5_init_58 rfl ?_
  refine jn_call (As := []) (rest := [.ref q4, .ref a]) jn v4 hA (c_X0_init) ⟨⟨wd_4_7, wd_1_6, wd_4_97, by decide⟩, rfl, wd_4_6⟩ rfl hl.1 ⟨by omega, by omega, by omega, by omega⟩ (Nat.le_of_ble_eq_true rfl) dX5_init_59 (fun ad4 H4b L4b e4 u4 => ?_)
  subst e4
  refine jn_putF (C := RX5) (T := TX5) (N := 9) (k := 4) (ci := 5) jn hnm u4 rfl jin_5 tyX5 tyX5_ok nmX5 (by decide) wd_4_104 rfl rfl rfl rfl (Nat.le_of_ble_eq_true rfl) dX5_init_62 (fun H4 L4 w4 => ?_)
  refine lv_aload_n hx hb dX5_init_65 rfl (lv_at hl 0 rfl) ?_
  refine jn_new (C := RX8) (T := TX8) (N := 3) (ci := 8) (fs := [.null, .int 0, .int 0]) jn w4 hA rfl jin_8 tyX8 tyX8_ok wd_4_98 wd_4_12 wd_1_7 bX8 ⟨by omega, by omega⟩ dX5_init_66 (fun q5 H5a v5 => ?_)
  refine lv_dup hx hb dX5_init_69 rfl ?_
  refine lv_bipush (v := nI 100) hx hb dX5_init_70 (by decide) ?_
  refine lv_bipush (v := nI 8) hx hb dX5_init_72 (by decide) ?_
  refine jn_call (As := [.int (nI 100), .int (nI 8)]) (rest := [.ref q5, .ref a]) jn v5 hA (c_X8_init (r := 100) (k := 8) (by decide)) ⟨⟨wd_4_15, wd_1_7, wd_4_99, by decide⟩, rfl, wd_4_14⟩ rfl hl.1 ⟨by omega, by omega, by omega, by omega⟩ (Nat.le_of_ble_eq_true rfl) dX5_init_74 (fun ad5 H5b L5b e5 u5 => ?_)
  subst e5
  refine jn_putF (C := RX5) (T := TX5) (N := 9) (k := 5) (ci := 5) jn hnm u5 rfl jin_5 tyX5 tyX5_ok nmX5 (by decide) wd_4_105 rfl rfl rfl rfl (Nat.le_of_ble_eq_true rfl) dX5_init_77 (fun H5 L5 w5 => ?_)
  refine lv_aload_n hx hb dX5_init_80 rfl (lv_at hl 0 rfl) ?_
  refine jn_new (C := RX4) (T := TX4) (N := 2) (ci := 4) (fs := [.null, .int 0]) jn w5 hA rfl jin_4 tyX4 tyX4_ok wd_4_94 wd_3_182 wd_1_3 bX4 ⟨by omega, by omega⟩ dX5_init_81 (fun q6 H6a v6 => ?_)
  refine lv_dup hx hb dX5_init_84 rfl ?_
  refine lv_bipush (v := nI 100) hx hb dX5_init_85 (by decide) ?_
  refine jn_call (As := [.int (nI 100)]) (rest := [.ref q6, .ref a]) jn v6 hA (c_X4_init (n := 100) (by decide)) ⟨⟨wd_3_185, wd_1_3, wd_4_95, by decide⟩, rfl, wd_3_184⟩ rfl hl.1 ⟨by omega, by omega, by omega, by omega⟩ (Nat.le_of_ble_eq_true rfl) dX5_init_87 (fun ad6 H6b L6b e6 u6 => ?_)
  subst e6
  refine jn_putF (C := RX5) (T := TX5) (N := 9) (k := 6) (ci := 5) jn hnm u6 rfl jin_5 tyX5 tyX5_ok nmX5 (by decide) wd_4_106 rfl rfl rfl rfl (Nat.le_of_ble_eq_true rfl) dX5_init_90 (fun H6 L6 w6 => ?_)
  refine lv_aload_n hx hb dX5_init_93 rfl (lv_at hl 0 rfl) ?_
  refine jn_new (C := RX4) (T := TX4) (N := 2) (ci := 4) (fs := [.null, .int 0]) jn w6 hA rfl jin_4 tyX4 tyX4_ok wd_4_94 wd_3_182 wd_1_3 bX4 ⟨by omega, by omega⟩ dX5_init_94 (fun q7 H7a v7 => ?_)
  refine lv_dup hx hb dX5_init_97 rfl ?_
  refine lv_sipush (v := nI 192) hx hb dX5_init_98 (by decide) ?_
  refine jn_call (As := [.int (nI 192)]) (rest := [.ref q7, .ref a]) jn v7 hA (c_X4_init (n := 192) (by decide)) ⟨⟨wd_3_185, wd_1_3, wd_4_95, by decide⟩, rfl, wd_3_184⟩ rfl hl.1 ⟨by omega, by omega, by omega, by omega⟩ (Nat.le_of_ble_eq_true rfl) dX5_init_101 (fun ad7 H7b L7b e7 u7 => ?_)
  subst e7
  refine jn_putF (C := RX5) (T := TX5) (N := 9) (k := 7) (ci := 5) jn hnm u7 rfl jin_5 tyX5 tyX5_ok nmX5 (by decide) wd_4_107 rfl rfl rfl rfl (Nat.le_of_ble_eq_true rfl) dX5_init_104 (fun H7 L7 w7 => ?_)
  have hT : ((((((((([] : va_W) ++ j_w (yt_L 24) ty ad0 (mt_0)) ++ j_w (yt_L 24) ty ad1 (mt_0)) ++ j_w (yt_L 24) ty ad2 (mt_0)) ++ j_w (yt_X0) ty ad3 (mt_X0)) ++ j_w (yt_X0) ty ad4 (mt_X0)) ++ j_w (yt_T 800) ty ad5 (mt_T 8)) ++ j_w (yt_L 100) ty ad6 (mt_0)) ++ j_w (yt_L 192) ty ad7 (mt_0)) = wt_f ty tl_X5 [ad0, ad1, ad2, ad3, ad4, ad5, ad6, ad7] := by
    simp only [wt_f, tl_X5, List.nil_append, List.append_nil, List.append_assoc]
  have w9 : JNW D A s.heap (j_w yt_X5 ty (at_tree a tl_X5 [ad0, ad1, ad2, ad3, ad4, ad5, ad6, ad7]) mt_X5) H7 L7 := by
    have e9 := wt_tree (ty := ty) (c := 5) (a := a) (T := tl_X5) (fs := [ad0, ad1, ad2, ad3, ad4, ad5, ad6, ad7]) (M0 := fun _ => 0) rfl tl_X5_cl
    unfold yt_X5 mt_X5
    rw [e9, ← hT]
    exact w7
  exact kr _ _ _ _ _ _ (at_tree a tl_X5 [ad0, ad1, ad2, ad3, ad4, ad5, ad6, ad7]) rfl w9 rfl rfl dX5_init_107

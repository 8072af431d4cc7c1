/-! ===== constructors: Alignment ===== -/
def tl_X0 : List (JY × JM) := [(yt_L 24, mt_0), (yt_L 24, mt_0), (yt_L 24, mt_0), (yt_L 24, mt_0), (yt_T 625, mt_TA 25)]
def yt_X0 : JY := yt_tree 0 tl_X0
def mt_X0 : JM := mt_tree (fun _ => 0) tl_X0
theorem tl_X0_cl : ∀ t ∈ tl_X0, yt_cl t.1 := List.forall_mem_cons.mpr ⟨yt_L_cl, List.forall_mem_cons.mpr ⟨yt_L_cl, List.forall_mem_cons.mpr ⟨yt_L_cl, List.forall_mem_cons.mpr ⟨yt_L_cl, List.forall_mem_cons.mpr ⟨yt_T_cl, fun _ h => absurd h List.not_mem_nil⟩⟩⟩⟩⟩
theorem yt_X0_cl : yt_cl yt_X0 := yt_tree_cl tl_X0_cl
set_option maxRecDepth 20000 in
theorem c_X0_init {D : va_G} {ty : Nat → ClassId} {l : Launch} {a sz : Nat} : JN D ty l yX0_init cX0_init 2 2 47 10 732 0 a sz [.null, .null, .null, .null, .null, .int 0, .int 0] [] yt_X0 mt_X0 := by
  refine jn_of (ix := 3) (by decide) rfl (Nat.le_of_ble_eq_true rfl) dX0_init_0 dX0_init_1 wd_4_8 (by decide) (by decide) (fun p e s m below meth c args R Q A hRf hRl hRc hRs hnm jn hA w kr ls hl => ?_)
  have hx := jn.1
  have hb := jn.2.1
  have hl : lv_has ls 2 [(0, .ref a)] := hl
  refine lv_aload_n hx hb dX0_init_4 rfl (lv_at hl 0 rfl) ?_
  refine jn_new (C := RX4) (T := TX4) (N := 2) (ci := 4) (fs := [.null, .int 0]) jn w hA rfl jin_4 tyX4 tyX4_ok wd_4_9 wd_3_182 wd_1_3 bX4 ⟨by omega, by omega⟩ dX0_init_5 (fun q0 H0a v0 => ?_)
  refine lv_dup hx hb dX0_init_8 rfl ?_
  refine lv_bipush (v := nI 24) hx hb dX0_init_9 (by decide) ?_
  refine jn_call (As := [.int (nI 24)]) (rest := [.ref q0, .ref a]) jn v0 hA (c_X4_init (n := 24) (by decide)) ⟨⟨wd_3_185, wd_1_3, wd_4_10, by decide⟩, rfl, wd_3_184⟩ rfl hl.1 ⟨by omega, by omega, by omega, by omega⟩ (Nat.le_of_ble_eq_true rfl) dX0_init_11 (fun ad0 H0b L0b e0 u0 => ?_)
  subst e0
  refine jn_putF (C := RX0) (T := TX0) (N := 7) (k := 0) (ci := 0) jn hnm u0 rfl jin_0 tyX0 tyX0_ok nmX0 (by decide) wd_4_28 rfl rfl rfl rfl (Nat.le_of_ble_eq_true rfl) dX0_init_14 (fun H0 L0 w0 => ?_)
  refine lv_aload_n hx hb dX0_init_17 rfl (lv_at hl 0 rfl) ?_
  refine jn_new (C := RX4) (T := TX4) (N := 2) (ci := 4) (fs := [.null, .int 0]) jn w0 hA rfl jin_4 tyX4 tyX4_ok wd_4_9 wd_3_182 wd_1_3 bX4 ⟨by omega, by omega⟩ dX0_init_18 (fun q1 H1a v1 => ?_)
  refine lv_dup hx hb dX0_init_21 rfl ?_
  refine lv_bipush (v := nI 24) hx hb dX0_init_22 (by decide) ?_
  refine jn_call (As := [.int (nI 24)]) (rest := [.ref q1, .ref a]) jn v1 hA (c_X4_init (n := 24) (by decide)) ⟨⟨wd_3_185, wd_1_3, wd_4_10, by decide⟩, rfl, wd_3_184⟩ rfl hl.1 ⟨by omega, by omega, by omega, by omega⟩ (Nat.le_of_ble_eq_true rfl) dX0_init_24 (fun ad1 H1b L1b e1 u1 => ?_)
  subst e1
  refine jn_putF (C := RX0) (T := TX0) (N := 7) (k := 1) (ci := 0) jn hnm u1 rfl jin_0 tyX0 tyX0_ok nmX0 (by decide) wd_4_29 rfl rfl rfl rfl (Nat.le_of_ble_eq_true rfl) dX0_init_27 (fun H1 L1 w1 => ?_)
  refine lv_aload_n hx hb dX0_init_30 rfl (lv_at hl 0 rfl) ?_
  refine jn_new (C := RX4) (T := TX4) (N := 2) (ci := 4) (fs := [.null, .int 0]) jn w1 hA rfl jin_4 tyX4 tyX4_ok wd_4_9 wd_3_182 wd_1_3 bX4 ⟨by omega, by omega⟩ dX0_init_31 (fun q2 H2a v2 => ?_)
  refine lv_dup hx hb dX0_init_34 rfl ?_
  refine lv_bipush (v := nI 24) hx hb dX0_init_35 (by decide) ?_
  refine jn_call (As := [.int (nI 24)]) (rest := [.ref q2, .ref a]) jn v2 hA (c_X4_init (n := 24) (by decide)) ⟨⟨wd_3_185, wd_1_3, wd_4_10, by decide⟩, rfl, wd_3_184⟩ rfl hl.1 ⟨by omega, by omega, by omega, by omega⟩ (Nat.le_of_ble_eq_true rfl) dX0_init_37 (fun ad2 H2b L2b e2 u2 => ?_)
  subst e2
  refine jn_putF (C := RX0) (T := TX0) (N := 7) (k := 2) (ci := 0) jn hnm u2 rfl jin_0 tyX0 tyX0_ok nmX0 (by decide) wd_4_30 rfl rfl rfl rfl (Nat.le_of_ble_eq_true rfl) dX0_init_40 (fun H2 L2 w2 => ?_)
  refine lv_aload_n hx hb dX0_init_43 rfl (lv_at hl 0 rfl) ?_
  refine jn_new (C := RX4) (T := TX4) (N := 2) (ci := 4) (fs := [.null, .int 0]) jn w2 hA rfl jin_4 tyX4 tyX4_ok wd_4_9 wd_3_182 wd_1_3 bX4 ⟨by omega, by omega⟩ dX0_init_44 (fun q3 H3a v3 => ?_)
  refine lv_dup hx hb dX0_init_47 rfl ?_
  refine lv_bipush (v := nI 24) hx hb dX0_init_48 (by decide) ?_
  refine jn_call (As := [.int (nI 24)]) (rest := [.ref q3, .ref a]) jn v3 hA (c_X4_init (n := 24) (by decide)) ⟨⟨wd_3_185, wd_1_3, wd_4_10, by decide⟩, rfl, wd_3_184⟩ rfl hl.1 ⟨by omega, by omega, by omega, by omega⟩ (Nat.le_of_ble_eq_true rfl) dX0_init_50 (fun ad3 H3b L3b e3 u3 => ?_)
  subst e3
  refine jn_putF (C := RX0) (T := TX0) (N := 7) (k := 3) (ci := 0) jn hnm u3 rfl jin_0 tyX0 tyX0_ok nmX0 (by decide) wd_4_31 rfl rfl rfl rfl (Nat.le_of_ble_eq_true rfl) dX0_init_53 (fun H3 L3 w3 => ?_)
  refine lv_aload_n hx hb dX0_init_56 rfl (lv_at hl 0 rfl) ?_
  refine jn_new (C := RX8) (T := TX8) (N := 3) (ci := 8) (fs := [.null, .int 0, .int 0]) jn w3 hA rfl jin_8 tyX8 tyX8_ok wd_4_11 wd_4_12 wd_1_7 bX8 ⟨by omega, by omega⟩ dX0_init_57 (fun q4 H4a v4 => ?_)
  refine lv_dup hx hb dX0_init_60 rfl ?_
  refine lv_bipush (v := nI 25) hx hb dX0_init_61 (by decide) ?_
  refine lv_bipush (v := nI 25) hx hb dX0_init_63 (by decide) ?_
  refine jn_call (As := [.int (nI 25), .int (nI 25)]) (rest := [.ref q4, .ref a]) jn v4 hA (c_X8_init (r := 25) (k := 25) (by decide)) ⟨⟨wd_4_15, wd_1_7, wd_4_13, by decide⟩, rfl, wd_4_14⟩ rfl hl.1 ⟨by omega, by omega, by omega, by omega⟩ (Nat.le_of_ble_eq_true rfl) dX0_init_65 (fun ad4 H4b L4b e4 u4 => ?_)
  subst e4
  refine jn_putF (C := RX0) (T := TX0) (N := 7) (k := 4) (ci := 0) jn hnm u4 rfl jin_0 tyX0 tyX0_ok nmX0 (by decide) wd_4_32 rfl rfl rfl rfl (Nat.le_of_ble_eq_true rfl) dX0_init_68 (fun H4 L4 w4 => ?_)
  have loop : ∀ (d i : Nat), i + d = 25 → ∀ (H : Heap) (locs : List Loc) (ls : Array Slot) (cells slots : Nat), cells = 10 → slots = 732 → lv_has ls 2 [(1, .int (nI i)), (0, .ref a)] → JNW D A s.heap ((a, .inr (0, [.ref (ad0 0), .ref (ad1 0), .ref (ad2 0), .ref (ad3 0), .ref (ad4 0), .int 0, .int 0])) :: (((((([] : va_W) ++ j_w (yt_L 24) ty ad0 (mt_0)) ++ j_w (yt_L 24) ty ad1 (mt_0)) ++ j_w (yt_L 24) ty ad2 (mt_0)) ++ j_w (yt_L 24) ty ad3 (mt_0)) ++ j_w (yt_T 625) ty ad4 (mt_TA i))) H locs → W p l e R s m args below meth c H locs cells slots Q (F0 m 73 ls []) := by
    intro d
    induction d with
    | zero =>
      intro i hi H locs ls cells slots hc9 hs9 hl w
      have e9 : i = 25 := by omega
      subst e9
      refine lv_iload_n hx hb dX0_init_73 rfl (lv_at hl 0 rfl) ?_
      refine lv_bipush (v := nI 24) hx hb dX0_init_74 (by decide) ?_
      refine lv_icmp_gt (tgt := 93) hx hb dX0_init_76 (by decide) (fun _ => ?_) (fun c1 => absurd (by decide) c1)
      have hT : (((((([] : va_W) ++ j_w (yt_L 24) ty ad0 (mt_0)) ++ j_w (yt_L 24) ty ad1 (mt_0)) ++ j_w (yt_L 24) ty ad2 (mt_0)) ++ j_w (yt_L 24) ty ad3 (mt_0)) ++ j_w (yt_T 625) ty ad4 (mt_TA 25)) = wt_f ty tl_X0 [ad0, ad1, ad2, ad3, ad4] := by
        simp only [wt_f, tl_X0, List.nil_append, List.append_nil, List.append_assoc]
      have w9 : JNW D A s.heap (j_w yt_X0 ty (at_tree a tl_X0 [ad0, ad1, ad2, ad3, ad4]) mt_X0) H locs := by
        have e9 := wt_tree (ty := ty) (c := 0) (a := a) (T := tl_X0) (fs := [ad0, ad1, ad2, ad3, ad4]) (M0 := fun _ => 0) rfl tl_X0_cl
        unfold yt_X0 mt_X0
        rw [e9, ← hT]
        exact w
      exact kr _ _ _ _ _ _ (at_tree a tl_X0 [ad0, ad1, ad2, ad3, ad4]) rfl w9 hc9 hs9 dX0_init_93
    | succ d ih =>
      intro i hi H locs ls cells slots hc9 hs9 hl w
      refine lv_iload_n hx hb dX0_init_73 rfl (lv_at hl 0 rfl) ?_
      refine lv_bipush (v := nI 24) hx hb dX0_init_74 (by decide) ?_
      refine lv_icmp_gt (tgt := 93) hx hb dX0_init_76 (by decide) (fun c1 => absurd c1 (nI_nlt (by omega) (by omega))) (fun _ => ?_)
      refine lv_aload_n hx hb dX0_init_79 rfl (lv_at hl 1 rfl) ?_
      refine jn_get (C := RX0) (T := TX0) (N := 7) (k := 4) (ci := 0) jn w rfl jin_0 (by decide) wd_4_32 rfl dX0_init_80 ?_
      obtain ⟨b1, b2⟩ := mt_TA_step (i := i) (by omega) (mt_TA_ok i (by omega))
      have w0 : JNW D A s.heap (((a, .inr (0, [.ref (ad0 0), .ref (ad1 0), .ref (ad2 0), .ref (ad3 0), .ref (ad4 0), .int 0, .int 0])) :: ((((([] : va_W) ++ j_w (yt_L 24) ty ad0 (mt_0)) ++ j_w (yt_L 24) ty ad1 (mt_0)) ++ j_w (yt_L 24) ty ad2 (mt_0)) ++ j_w (yt_L 24) ty ad3 (mt_0))) ++ j_w (yt_T 625) ty ad4 (mt_TA i)) H locs := w
      refine jn_vi (o := 0) (ci := 8) [] [] jn w0 hA (yt_T_ok (by decide)) rfl (by decide) rfl (c_X8_addRow (yt_T_ok (by decide)) rfl b1) ⟨⟨wd_2_100, wd_1_7, wd_4_27, by decide⟩, wd_2_98, wd_2_99⟩ rfl hl.1 ⟨by omega, by omega, by omega, by omega⟩ (Nat.le_of_ble_eq_true rfl) dX0_init_83 (fun H2 L2 w2 => ?_)
      refine lv_pop hx hb dX0_init_86 rfl ?_
      refine lv_iinc (v := nI (i + 1)) (lv' := [(1, .int (nI (i + 1))), (0, .ref a)]) hx hb dX0_init_87 hl (k := 0) rfl (by rw [show Int32.ofInt 1 = nI 1 from rfl]; exact nI_add i 1) (by decide) rfl (fun ls hl => ?_)
      refine lv_goto (tgt := 73) hx hb dX0_init_90 (by decide) ?_
      exact ih (i + 1) (by omega) H2 L2 ls cells slots hc9 hs9 hl w2
  refine lv_iconst (v := nI 0) hx hb dX0_init_71 (by decide) ?_
  refine lv_istore_n (lv' := [(1, .int (nI 0)), (0, .ref a)]) hx hb dX0_init_72 rfl hl (by decide) rfl (fun ls hl => ?_)
  exact loop 25 0 rfl _ _ ls _ _ rfl rfl hl w4

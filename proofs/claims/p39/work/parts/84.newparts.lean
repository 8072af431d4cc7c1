/-! ===== constructors: Table, Input ===== -/
theorem bX4 : ∀ j, j < 2 → defaultValue (tyX4 j) = vp_V [.null, .int 0] j := fun j hj => match j, hj with
  | 0, _ => rfl
  | 1, _ => rfl
  | k + 2, h => absurd h (by omega)
theorem bX8 : ∀ j, j < 3 → defaultValue (tyX8 j) = vp_V [.null, .int 0, .int 0] j := fun j hj => match j, hj with
  | 0, _ => rfl
  | 1, _ => rfl
  | 2, _ => rfl
  | k + 3, h => absurd h (by omega)
/-- the layout of a Table of n cells; k columns -/
def yt_T (n : Nat) : JY := ([8, 100], fun _ _ => 1, fun o => if o = 1 then n else 0)
def mt_T (k : Nat) : JM := fun o f => if o = 0 ∧ f = 1 then nI k else 0
theorem yt_T_cl {n : Nat} : yt_cl (yt_T n) := ⟨by show 0 < 2; decide, fun _ _ _ => by show 1 < 2; decide⟩
theorem c_X8_init {D : va_G} {ty : Nat → ClassId} {l : Launch} {a sz r k : Nat} (hn : r * k < 1000000) : JN D ty l yX8_init cX8_init 4 1 12 1 (r * k) 8 a sz [.null, .int 0, .int 0] [.int (nI r), .int (nI k)] (yt_T (r * k)) (mt_T k) := by
  refine jn_of (ix := 3) (by decide) rfl (Nat.le_of_ble_eq_true rfl) dX8_init_0 dX8_init_1 wd_4_16 (by decide) (by decide) (fun p e s m below meth c args R Q A hRf hRl hRc hRs hnm jn hA w kr ls hl => ?_)
  have hx := jn.1
  have hb := jn.2.1
  have hl : lv_has ls 4 [(0, .ref a), (1, .int (nI r)), (2, .int (nI k))] := hl
  refine lv_iload_n hx hb dX8_init_4 rfl (lv_at hl 1 rfl) ?_
  refine lv_iload_n hx hb dX8_init_5 rfl (lv_at hl 2 rfl) ?_
  refine lv_imul hx hb dX8_init_6 ?_
  rw [nI_mul]
  generalize hN : r * k = N at hn hRs kr ⊢
  refine lv_istore_n (lv' := [(3, .int (nI N)), (0, .ref a), (1, .int (nI r)), (2, .int (nI k))]) hx hb dX8_init_7 rfl hl (by decide) rfl (fun ls hl => ?_)
  have tail : W p l e R s m args below meth c s.heap [] 0 0 Q (F0 m 18 ls [.int (nI N), .ref a]) := by
    refine jn_newi (N := N) jn w hA (nI_pos (by omega)) (nI_clamp (by omega)) hn ⟨by omega, by omega⟩ dX8_init_18 (fun q H1 w1 => ?_)
    have w1' : JNW D A s.heap ((a, .inr (8, [.null, .int 0, .int 0])) :: [(q, .inl (ty 0, N, .inl (fun _ => 0)))]) H1 [] := w1
    refine jn_putF (C := RX8) (T := TX8) (N := 3) (k := 0) (ci := 8) jn hnm w1' rfl jin_8 tyX8 tyX8_ok nmX8 (by decide) wd_4_17 rfl rfl rfl rfl (by decide) dX8_init_20 (fun H2 locs2 w2 => ?_)
    refine lv_aload_n hx hb dX8_init_23 rfl (lv_at hl 1 rfl) ?_
    refine lv_iload_n hx hb dX8_init_24 rfl (lv_at hl 3 rfl) ?_
    refine jn_putF (C := RX8) (T := TX8) (N := 3) (k := 1) (ci := 8) jn hnm w2 rfl jin_8 tyX8 tyX8_ok nmX8 (by decide) wd_4_18 rfl rfl rfl rfl (Nat.le_of_ble_eq_true rfl) dX8_init_25 (fun H3 locs3 w3 => ?_)
    have w3' : JNW D A s.heap (j_w (yt_T N) ty (fun i => if i = 0 then a else q) (mt_T k)) H3 locs3 := w3
    exact kr _ _ _ _ _ _ (fun i => if i = 0 then a else q) rfl w3' (Nat.zero_add 1) (Nat.zero_add N) dX8_init_28
  refine lv_aload_n hx hb dX8_init_8 rfl (lv_at hl 1 rfl) ?_
  refine lv_iload_n hx hb dX8_init_9 rfl (lv_at hl 0 rfl) ?_
  refine lv_if_le (tgt := 17) hx hb dX8_init_10 (by decide) (fun c1 => ?_) (fun c1 => ?_)
  · have h0 : N = 0 := (nI_le0 (by omega)).mp c1
    subst h0
    refine lv_iconst (v := 0) hx hb dX8_init_17 (by decide) ?_
    exact tail
  · refine lv_iload_n hx hb dX8_init_13 rfl (lv_at hl 0 rfl) ?_
    refine lv_goto (tgt := 18) hx hb dX8_init_14 (by decide) ?_
    exact tail
def tl_X3 : List (JY × JM) := [(yt_L 50, mt_0), (yt_L 4, mt_0)]
def yt_X3 : JY := yt_tree 3 tl_X3
def mt_X3 : JM := mt_tree (fun _ => 0) tl_X3
theorem tl_X3_cl : ∀ t ∈ tl_X3, yt_cl t.1 := List.forall_mem_cons.mpr ⟨yt_L_cl, List.forall_mem_cons.mpr ⟨yt_L_cl, fun _ h => absurd h List.not_mem_nil⟩⟩
theorem yt_X3_cl : yt_cl yt_X3 := yt_tree_cl tl_X3_cl
set_option maxRecDepth 20000 in
theorem c_X3_init {D : va_G} {ty : Nat → ClassId} {l : Launch} {a sz : Nat} : JN D ty l yX3_init cX3_init 1 2 33 4 58 3 a sz [.null, .null] [] yt_X3 mt_X3 := by
  refine jn_of (ix := 3) (by decide) rfl (Nat.le_of_ble_eq_true rfl) dX3_init_0 dX3_init_1 wd_3_232 (by decide) (by decide) (fun p e s m below meth c args R Q A hRf hRl hRc hRs hnm jn hA w kr ls hl => ?_)
  have hx := jn.1
  have hb := jn.2.1
  have hl : lv_has ls 1 [(0, .ref a)] := hl
  refine lv_aload_n hx hb dX3_init_4 rfl (lv_at hl 0 rfl) ?_
  refine jn_new (C := RX4) (T := TX4) (N := 2) (ci := 4) (fs := [.null, .int 0]) jn w hA rfl jin_4 tyX4 tyX4_ok wd_3_233 wd_3_182 wd_1_3 bX4 ⟨by omega, by omega⟩ dX3_init_5 (fun q0 H0a v0 => ?_)
  refine lv_dup hx hb dX3_init_8 rfl ?_
  refine lv_bipush (v := nI 50) hx hb dX3_init_9 (by decide) ?_
  refine jn_call (As := [.int (nI 50)]) (rest := [.ref q0, .ref a]) jn v0 hA (c_X4_init (n := 50) (by decide)) ⟨⟨wd_3_185, wd_1_3, wd_3_234, by decide⟩, rfl, wd_3_184⟩ rfl hl.1 ⟨by omega, by omega, by omega, by omega⟩ (Nat.le_of_ble_eq_true rfl) dX3_init_11 (fun ad0 H0b L0b e0 u0 => ?_)
  subst e0
  refine jn_putF (C := RX3) (T := TX3) (N := 2) (k := 0) (ci := 3) jn hnm u0 rfl jin_3 tyX3 tyX3_ok nmX3 (by decide) wd_3_235 rfl rfl rfl rfl (Nat.le_of_ble_eq_true rfl) dX3_init_14 (fun H0 L0 w0 => ?_)
  refine lv_aload_n hx hb dX3_init_17 rfl (lv_at hl 0 rfl) ?_
  refine jn_new (C := RX4) (T := TX4) (N := 2) (ci := 4) (fs := [.null, .int 0]) jn w0 hA rfl jin_4 tyX4 tyX4_ok wd_3_233 wd_3_182 wd_1_3 bX4 ⟨by omega, by omega⟩ dX3_init_18 (fun q1 H1a v1 => ?_)
  refine lv_dup hx hb dX3_init_21 rfl ?_
  refine lv_iconst (v := nI 4) hx hb dX3_init_22 (by decide) ?_
  refine jn_call (As := [.int (nI 4)]) (rest := [.ref q1, .ref a]) jn v1 hA (c_X4_init (n := 4) (by decide)) ⟨⟨wd_3_185, wd_1_3, wd_3_234, by decide⟩, rfl, wd_3_184⟩ rfl hl.1 ⟨by omega, by omega, by omega, by omega⟩ (Nat.le_of_ble_eq_true rfl) dX3_init_23 (fun ad1 H1b L1b e1 u1 => ?_)
  subst e1
  refine jn_putF (C := RX3) (T := TX3) (N := 2) (k := 1) (ci := 3) jn hnm u1 rfl jin_3 tyX3 tyX3_ok nmX3 (by decide) wd_3_236 rfl rfl rfl rfl (Nat.le_of_ble_eq_true rfl) dX3_init_26 (fun H1 L1 w1 => ?_)
  have hT : ((([] : va_W) ++ j_w (yt_L 50) ty ad0 (mt_0)) ++ j_w (yt_L 4) ty ad1 (mt_0)) = wt_f ty tl_X3 [ad0, ad1] := by
    simp only [wt_f, tl_X3, List.nil_append, List.append_nil, List.append_assoc]
  have w9 : JNW D A s.heap (j_w yt_X3 ty (at_tree a tl_X3 [ad0, ad1]) mt_X3) H1 L1 := by
    have e9 := wt_tree (ty := ty) (c := 3) (a := a) (T := tl_X3) (fs := [ad0, ad1]) (M0 := fun _ => 0) rfl tl_X3_cl
    unfold yt_X3 mt_X3
    rw [e9, ← hT]
    exact w1
  exact kr _ _ _ _ _ _ (at_tree a tl_X3 [ad0, ad1]) rfl w9 rfl rfl dX3_init_29

/-! ===== constructors: MergeWorkbench ===== -/
section JNCN
variable {p : Program} {l : Launch} {e : Env} {R : Room} {s : State} {m : MethodId} {args : Array Value} {below : List Frame} {meth : Method} {c : Code} {H : Heap} {locs : List Loc} {cells slots : Nat} {Q : State → Prop}
variable {cc : ByteArray} {nL pc : Nat} {own : String} {ls : Array Slot} {rest : List Value} {D : va_G} {ty : Nat → ClassId} {A : Nat → Prop} {ws : va_W} {index : Nat}
theorem jn_callN {host : String} {y : MethodName} {b : ByteArray} {n fr lo mc ms c0 q : Nat} {fs As st0 : List Value} {Ys : JY} {Ms : JM} (jn : JNC D ty p s m args c cc nL own) (w : JNW D A s.heap (ws ++ [(q, .inr (c0, fs))]) H locs) (hA : ∀ q, s.heap.size ≤ q → A q) (hM : JN D ty l y b n fr lo mc ms c0 q H.size fs As Ys Ms)
    (sd : Cond.code y b n none ∈ jwd ∧ Cond.initialized y.cls ∈ jwd ∧ (y.cls ≠ "java/lang/invoke/MethodHandle" ∧ y.cls ≠ "java/lang/invoke/VarHandle" ∧ (parseMethodDescriptor y.desc).map (fun d => d.parameters.length) = some As.length) ∧ y.name = "<init>" ∧ Cond.instanceMethod y ∈ jwd) (hnest : va_Nw (.methodLinkNest own index y host) s) (hst : As.reverse ++ .ref q :: rest = st0) (hls : ls.size = nL) (hR : fr + 1 ≤ R.frames ∧ 8 + (n + 11) + lo ≤ R.locals ∧ cells + mc ≤ R.cells ∧ slots + ms ≤ R.slots) (hr8 : (rest.map fun v => v.category).sum ≤ 8) (hdg : decode cc pc = .ok (.invokespecial index, 3))
    (kk : ∀ (ad : Nat → Nat) (H1 : Heap) (locs1 : List Loc), ad 0 = q → JNW D A s.heap (ws ++ j_w Ys ty ad Ms) H1 locs1 → W p l e R s m args below meth c H1 locs1 (cells + mc) (slots + ms) Q (F0 m (pc + 3) ls rest)) : W p l e R s m args below meth c H locs cells slots Q (F0 m pc ls st0) := by
  have hAq : A q := w.2.1.2 ws.length (q, .inr (c0, fs)) (by simp)
  have hAA : ∀ z, j_B q H.size z → A z := fun z h => h.elim (fun h => by rw [h]; exact hAq) (fun h => hA z (Nat.le_trans w.2.2.1 h))
  have hPx : va_P D jcl [((q, .inr (c0, fs)) : Nat × va_E)] H := fun k z hk => by
    have h1 := List.mem_of_getElem? hk
    rw [List.mem_singleton.mp h1]
    exact w.1 ws.length _ (by simp)
  refine va_callv (va_runIN (As := As) (rest := rest) (Ts := jwd) ⟨jn.1, jn.2.1, jn.2.2.1, jn.2.2.2.1, jn.2.2.2.2.1⟩ hM ⟨va_cnB As.length jn.2.2.2.2.1 (j_goodc sd.1) rfl rfl rfl hnest (jn.2.2.2.2.1 _ sd.2.1) sd.2.2.1 ⟨hR.1, hR.2.1⟩, sd.2.2.2.1, jn.2.2.2.2.1 _ sd.2.2.2.2⟩ ⟨j_blindN, fun U hU hW => ⟨rfl, by rw [hU], by rw [hU]; exact hPx, va_K.moved hW.alike jn.2.2.2.2.2.1, j_X.moved hW jn.2.2.2.2.2.2⟩⟩ rfl rfl hls hst.symm (lv_room hr8) hdg hR.2.2) w.2.2 (fun z _ h => hAA z h) (fun z h => hAA z h) (fun ad t H1 locs1 ht hvm hw hB hz hk hS => ?_)
  obtain ⟨hP1, hK1, hD1⟩ := hB
  rw [ht] at hP1
  obtain ⟨x1, x2⟩ := j_join w.1 w.2.1 hk hAA hP1 hD1
  exact kk ad H1 locs1 hw ⟨x1, x2, hS⟩
end JNCN
theorem bX1 : ∀ j, j < 9 → defaultValue (tyX1 j) = vp_V [.null, .null, .null, .null, .null, .null, .null, .null, .int 0] j := fun j hj => match j, hj with
  | 0, _ => rfl
  | 1, _ => rfl
  | 2, _ => rfl
  | 3, _ => rfl
  | 4, _ => rfl
  | 5, _ => rfl
  | 6, _ => rfl
  | 7, _ => rfl
  | 8, _ => rfl
  | k + 9, h => absurd h (by omega)
theorem bX2 : ∀ j, j < 4 → defaultValue (tyX2 j) = vp_V [.null, .null, .int 0, .int 0] j := fun j hj => match j, hj with
  | 0, _ => rfl
  | 1, _ => rfl
  | 2, _ => rfl
  | 3, _ => rfl
  | k + 4, h => absurd h (by omega)
theorem bX3 : ∀ j, j < 2 → defaultValue (tyX3 j) = vp_V [.null, .null] j := fun j hj => match j, hj with
  | 0, _ => rfl
  | 1, _ => rfl
  | k + 2, h => absurd h (by omega)
theorem bX5 : ∀ j, j < 9 → defaultValue (tyX5 j) = vp_V [.null, .null, .null, .null, .null, .null, .null, .null, .int 0] j := fun j hj => match j, hj with
  | 0, _ => rfl
  | 1, _ => rfl
  | 2, _ => rfl
  | 3, _ => rfl
  | 4, _ => rfl
  | 5, _ => rfl
  | 6, _ => rfl
  | 7, _ => rfl
  | 8, _ => rfl
  | k + 9, h => absurd h (by omega)
theorem bX6 : ∀ j, j < 9 → defaultValue (tyX6 j) = vp_V [.null, .null, .null, .null, .null, .null, .int 0, .int 0, .int 0] j := fun j hj => match j, hj with
  | 0, _ => rfl
  | 1, _ => rfl
  | 2, _ => rfl
  | 3, _ => rfl
  | 4, _ => rfl
  | 5, _ => rfl
  | 6, _ => rfl
  | 7, _ => rfl
  | 8, _ => rfl
  | k + 9, h => absurd h (by omega)
def tl_X9 : List (JY × JM) := [(yt_S 4, mt_0), (yt_S 4, mt_0), (yt_X2, mt_X2), (yt_X3, mt_X3), (yt_L 24, mt_0), (yt_X0, mt_X0), (yt_X1, mt_X1), (yt_X5, mt_X5), (yt_X6, mt_X6)]
def yt_X9 : JY := yt_tree 9 tl_X9
def mt_X9 : JM := mt_tree (fun k => if k = 12 then 1 else 0) tl_X9
theorem tl_X9_cl : ∀ t ∈ tl_X9, yt_cl t.1 := List.forall_mem_cons.mpr ⟨yt_S4_cl, List.forall_mem_cons.mpr ⟨yt_S4_cl, List.forall_mem_cons.mpr ⟨yt_X2_cl, List.forall_mem_cons.mpr ⟨yt_X3_cl, List.forall_mem_cons.mpr ⟨yt_L_cl, List.forall_mem_cons.mpr ⟨yt_X0_cl, List.forall_mem_cons.mpr ⟨yt_X1_cl, List.forall_mem_cons.mpr ⟨yt_X5_cl, List.forall_mem_cons.mpr ⟨yt_X6_cl, fun _ h => absurd h List.not_mem_nil⟩⟩⟩⟩⟩⟩⟩⟩⟩
theorem yt_X9_cl : yt_cl yt_X9 := yt_tree_cl tl_X9_cl
set_option maxRecDepth 20000 in
theorem c_X9_init {D : va_G} {ty : Nat → ClassId} {l : Launch} {a sz : Nat} : JN D ty l yX9_init cX9_init 1 4 88 139 5445 9 a sz [.null, .null, .null, .null, .null, .null, .null, .null, .null, .int 0, .int 0, .int 0, .int 0] [] yt_X9 mt_X9 := by
  refine jn_of (ix := 1) (by decide) rfl (Nat.le_of_ble_eq_true rfl) dX9_init_0 dX9_init_1 wd_3_174 (by decide) (by decide) (fun p e s m below meth c args R Q A hRf hRl hRc hRs hnm jn hA w kr ls hl => ?_)
  have hx := jn.1
  have hb := jn.2.1
  have hl : lv_has ls 1 [(0, .ref a)] := hl
  refine lv_aload_n hx hb dX9_init_4 rfl (lv_at hl 0 rfl) ?_
  refine jn_new (C := RX7) (T := TX7) (N := 2) (ci := 7) (fs := [.null, .null]) jn w hA rfl jin_7 tyX7 tyX7_ok wd_3_175 wd_3_176 wd_1_2 bX7 ⟨by omega, by omega⟩ dX9_init_5 (fun q0 H0a v0 => ?_)
  refine lv_dup hx hb dX9_init_8 rfl ?_
  refine lv_iconst (v := nI 4) hx hb dX9_init_9 (by decide) ?_
  refine jn_call (As := [.int (nI 4)]) (rest := [.ref q0, .ref a]) jn v0 hA (c_X7_init_4) ⟨⟨wd_3_179, wd_1_2, wd_3_177, by decide⟩, rfl, wd_3_178⟩ rfl hl.1 ⟨by omega, by omega, by omega, by omega⟩ (Nat.le_of_ble_eq_true rfl) dX9_init_10 (fun ad0 H0b L0b e0 u0 => ?_)
  subst e0
  refine jn_putF (C := RX9) (T := TX9) (N := 13) (k := 0) (ci := 9) jn hnm u0 rfl jin_9 tyX9 tyX9_ok nmX9 (by decide) wd_4_165 rfl rfl rfl rfl (Nat.le_of_ble_eq_true rfl) dX9_init_13 (fun H0 L0 w0 => ?_)
  refine lv_aload_n hx hb dX9_init_16 rfl (lv_at hl 0 rfl) ?_
  refine jn_new (C := RX7) (T := TX7) (N := 2) (ci := 7) (fs := [.null, .null]) jn w0 hA rfl jin_7 tyX7 tyX7_ok wd_3_175 wd_3_176 wd_1_2 bX7 ⟨by omega, by omega⟩ dX9_init_17 (fun q1 H1a v1 => ?_)
  refine lv_dup hx hb dX9_init_20 rfl ?_
  refine lv_iconst (v := nI 4) hx hb dX9_init_21 (by decide) ?_
  refine jn_call (As := [.int (nI 4)]) (rest := [.ref q1, .ref a]) jn v1 hA (c_X7_init_4) ⟨⟨wd_3_179, wd_1_2, wd_3_177, by decide⟩, rfl, wd_3_178⟩ rfl hl.1 ⟨by omega, by omega, by omega, by omega⟩ (Nat.le_of_ble_eq_true rfl) dX9_init_22 (fun ad1 H1b L1b e1 u1 => ?_)
  subst e1
  refine jn_putF (C := RX9) (T := TX9) (N := 13) (k := 1) (ci := 9) jn hnm u1 rfl jin_9 tyX9 tyX9_ok nmX9 (by decide) wd_4_166 rfl rfl rfl rfl (Nat.le_of_ble_eq_true rfl) dX9_init_25 (fun H1 L1 w1 => ?_)
  refine lv_aload_n hx hb dX9_init_28 rfl (lv_at hl 0 rfl) ?_
  refine jn_new (C := RX2) (T := TX2) (N := 4) (ci := 2) (fs := [.null, .null, .int 0, .int 0]) jn w1 hA rfl jin_2 tyX2 tyX2_ok wd_3_203 wd_3_204 wd_1_4 bX2 ⟨by omega, by omega⟩ dX9_init_29 (fun q2 H2a v2 => ?_)
  refine lv_dup hx hb dX9_init_32 rfl ?_
  refine jn_call (As := []) (rest := [.ref q2, .ref a]) jn v2 hA (c_X2_init) ⟨⟨wd_3_207, wd_1_4, wd_3_205, by decide⟩, rfl, wd_3_206⟩ rfl hl.1 ⟨by omega, by omega, by omega, by omega⟩ (Nat.le_of_ble_eq_true rfl) dX9_init_33 (fun ad2 H2b L2b e2 u2 => ?_)
  subst e2
  refine jn_putF (C := RX9) (T := TX9) (N := 13) (k := 2) (ci := 9) jn hnm u2 rfl jin_9 tyX9 tyX9_ok nmX9 (by decide) wd_4_167 rfl rfl rfl rfl (Nat.le_of_ble_eq_true rfl) dX9_init_36 (fun H2 L2 w2 => ?_)
  refine lv_aload_n hx hb dX9_init_39 rfl (lv_at hl 0 rfl) ?_
  refine jn_new (C := RX3) (T := TX3) (N := 2) (ci := 3) (fs := [.null, .null]) jn w2 hA rfl jin_3 tyX3 tyX3_ok wd_3_227 wd_3_228 wd_1_5 bX3 ⟨by omega, by omega⟩ dX9_init_40 (fun q3 H3a v3 => ?_)
  refine lv_dup hx hb dX9_init_43 rfl ?_
  refine jn_callN (host := RX9) (As := []) (rest := [.ref q3, .ref a]) jn v3 hA (c_X3_init) ⟨wd_3_231, wd_1_5, by decide, rfl, wd_3_230⟩ jn.2.2.2.2.2.2.2.1 rfl hl.1 ⟨by omega, by omega, by omega, by omega⟩ (Nat.le_of_ble_eq_true rfl) dX9_init_44 (fun ad3 H3b L3b e3 u3 => ?_)
  subst e3
  refine jn_putF (C := RX9) (T := TX9) (N := 13) (k := 3) (ci := 9) jn hnm u3 rfl jin_9 tyX9 tyX9_ok nmX9 (by decide) wd_4_168 rfl rfl rfl rfl (Nat.le_of_ble_eq_true rfl) dX9_init_47 (fun H3 L3 w3 => ?_)
  refine lv_aload_n hx hb dX9_init_50 rfl (lv_at hl 0 rfl) ?_
  refine jn_new (C := RX4) (T := TX4) (N := 2) (ci := 4) (fs := [.null, .int 0]) jn w3 hA rfl jin_4 tyX4 tyX4_ok wd_4_2 wd_3_182 wd_1_3 bX4 ⟨by omega, by omega⟩ dX9_init_51 (fun q4 H4a v4 => ?_)
  refine lv_dup hx hb dX9_init_54 rfl ?_
  refine lv_bipush (v := nI 24) hx hb dX9_init_55 (by decide) ?_
  refine jn_call (As := [.int (nI 24)]) (rest := [.ref q4, .ref a]) jn v4 hA (c_X4_init (n := 24) (by decide)) ⟨⟨wd_3_185, wd_1_3, wd_4_3, by decide⟩, rfl, wd_3_184⟩ rfl hl.1 ⟨by omega, by omega, by omega, by omega⟩ (Nat.le_of_ble_eq_true rfl) dX9_init_57 (fun ad4 H4b L4b e4 u4 => ?_)
  subst e4
  refine jn_putF (C := RX9) (T := TX9) (N := 13) (k := 4) (ci := 9) jn hnm u4 rfl jin_9 tyX9 tyX9_ok nmX9 (by decide) wd_4_169 rfl rfl rfl rfl (Nat.le_of_ble_eq_true rfl) dX9_init_60 (fun H4 L4 w4 => ?_)
  refine lv_aload_n hx hb dX9_init_63 rfl (lv_at hl 0 rfl) ?_
  refine jn_new (C := RX0) (T := TX0) (N := 7) (ci := 0) (fs := [.null, .null, .null, .null, .null, .int 0, .int 0]) jn w4 hA rfl jin_0 tyX0 tyX0_ok wd_4_4 wd_2_29 wd_1_6 bX0 ⟨by omega, by omega⟩ dX9_init_64 (fun q5 H5a v5 => ?_)
  refine lv_dup hx hb dX9_init_67 rfl ?_
  refine jn_call (As := []) (rest := [.ref q5, .ref a]) jn v5 hA (c_X0_init) ⟨⟨wd_4_7, wd_1_6, wd_4_5, by decide⟩, rfl, wd_4_6⟩ rfl hl.1 ⟨by omega, by omega, by omega, by omega⟩ (Nat.le_of_ble_eq_true rfl) dX9_init_68 (fun ad5 H5b L5b e5 u5 => ?_)
  subst e5
  refine jn_putF (C := RX9) (T := TX9) (N := 13) (k := 5) (ci := 9) jn hnm u5 rfl jin_9 tyX9 tyX9_ok nmX9 (by decide) wd_4_170 rfl rfl rfl rfl (Nat.le_of_ble_eq_true rfl) dX9_init_71 (fun H5 L5 w5 => ?_)
  refine lv_aload_n hx hb dX9_init_74 rfl (lv_at hl 0 rfl) ?_
  refine jn_new (C := RX1) (T := TX1) (N := 9) (ci := 1) (fs := [.null, .null, .null, .null, .null, .null, .null, .null, .int 0]) jn w5 hA rfl jin_1 tyX1 tyX1_ok wd_4_50 wd_2_82 wd_1_8 bX1 ⟨by omega, by omega⟩ dX9_init_75 (fun q6 H6a v6 => ?_)
  refine lv_dup hx hb dX9_init_78 rfl ?_
  refine jn_callN (host := RX9) (As := []) (rest := [.ref q6, .ref a]) jn v6 hA (c_X1_init) ⟨wd_4_53, wd_1_8, by decide, rfl, wd_4_52⟩ jn.2.2.2.2.2.2.2.2.1 rfl hl.1 ⟨by omega, by omega, by omega, by omega⟩ (Nat.le_of_ble_eq_true rfl) dX9_init_79 (fun ad6 H6b L6b e6 u6 => ?_)
  subst e6
  refine jn_putF (C := RX9) (T := TX9) (N := 13) (k := 6) (ci := 9) jn hnm u6 rfl jin_9 tyX9 tyX9_ok nmX9 (by decide) wd_4_171 rfl rfl rfl rfl (Nat.le_of_ble_eq_true rfl) dX9_init_82 (fun H6 L6 w6 => ?_)
  refine lv_aload_n hx hb dX9_init_85 rfl (lv_at hl 0 rfl) ?_
  refine jn_new (C := RX5) (T := TX5) (N := 9) (ci := 5) (fs := [.null, .null, .null, .null, .null, .null, .null, .null, .int 0]) jn w6 hA rfl jin_5 tyX5 tyX5_ok wd_4_89 wd_2_209 wd_1_9 bX5 ⟨by omega, by omega⟩ dX9_init_86 (fun q7 H7a v7 => ?_)
  refine lv_dup hx hb dX9_init_89 rfl ?_
  refine jn_callN (host := RX9) (As := []) (rest := [.ref q7, .ref a]) jn v7 hA (c_X5_init) ⟨wd_4_92, wd_1_9, by decide, rfl, wd_4_91⟩ jn.2.2.2.2.2.2.2.2.2.1 rfl hl.1 ⟨by omega, by omega, by omega, by omega⟩ (Nat.le_of_ble_eq_true rfl) dX9_init_90 (fun ad7 H7b L7b e7 u7 => ?_)
  subst e7
  refine jn_putF (C := RX9) (T := TX9) (N := 13) (k := 7) (ci := 9) jn hnm u7 rfl jin_9 tyX9 tyX9_ok nmX9 (by decide) wd_4_172 rfl rfl rfl rfl (Nat.le_of_ble_eq_true rfl) dX9_init_93 (fun H7 L7 w7 => ?_)
  refine lv_aload_n hx hb dX9_init_96 rfl (lv_at hl 0 rfl) ?_
  refine jn_new (C := RX6) (T := TX6) (N := 9) (ci := 6) (fs := [.null, .null, .null, .null, .null, .null, .int 0, .int 0, .int 0]) jn w7 hA rfl jin_6 tyX6 tyX6_ok wd_4_128 wd_3_79 wd_1_10 bX6 ⟨by omega, by omega⟩ dX9_init_97 (fun q8 H8a v8 => ?_)
  refine lv_dup hx hb dX9_init_100 rfl ?_
  refine jn_callN (host := RX9) (As := []) (rest := [.ref q8, .ref a]) jn v8 hA (c_X6_init) ⟨wd_4_131, wd_1_10, by decide, rfl, wd_4_130⟩ jn.2.2.2.2.2.2.2.2.2.2 rfl hl.1 ⟨by omega, by omega, by omega, by omega⟩ (Nat.le_of_ble_eq_true rfl) dX9_init_101 (fun ad8 H8b L8b e8 u8 => ?_)
  subst e8
  refine jn_putF (C := RX9) (T := TX9) (N := 13) (k := 8) (ci := 9) jn hnm u8 rfl jin_9 tyX9 tyX9_ok nmX9 (by decide) wd_4_173 rfl rfl rfl rfl (Nat.le_of_ble_eq_true rfl) dX9_init_104 (fun H8 L8 w8 => ?_)
  refine lv_aload_n hx hb dX9_init_107 rfl (lv_at hl 0 rfl) ?_
  refine lv_iconst (v := 0) hx hb dX9_init_108 (by decide) ?_
  refine jn_put (C := RX9) (T := TX9) (N := 13) (k := 9) (ci := 9) jn w8 rfl jin_9 tyX9 tyX9_ok nmX9 (by decide) wd_4_174 rfl rfl rfl (Nat.le_of_ble_eq_true rfl) dX9_init_109 (fun Hs0 Ls0 ws0 => ?_)
  refine lv_aload_n hx hb dX9_init_112 rfl (lv_at hl 0 rfl) ?_
  refine lv_iconst (v := 0) hx hb dX9_init_113 (by decide) ?_
  refine jn_put (C := RX9) (T := TX9) (N := 13) (k := 10) (ci := 9) jn ws0 rfl jin_9 tyX9 tyX9_ok nmX9 (by decide) wd_4_175 rfl rfl rfl (Nat.le_of_ble_eq_true rfl) dX9_init_114 (fun Hs1 Ls1 ws1 => ?_)
  refine lv_aload_n hx hb dX9_init_117 rfl (lv_at hl 0 rfl) ?_
  refine lv_iconst (v := 0) hx hb dX9_init_118 (by decide) ?_
  refine jn_put (C := RX9) (T := TX9) (N := 13) (k := 11) (ci := 9) jn ws1 rfl jin_9 tyX9 tyX9_ok nmX9 (by decide) wd_4_176 rfl rfl rfl (Nat.le_of_ble_eq_true rfl) dX9_init_119 (fun Hs2 Ls2 ws2 => ?_)
  refine lv_aload_n hx hb dX9_init_122 rfl (lv_at hl 0 rfl) ?_
  refine lv_iconst (v := 1) hx hb dX9_init_123 (by decide) ?_
  refine jn_put (C := RX9) (T := TX9) (N := 13) (k := 12) (ci := 9) jn ws2 rfl jin_9 tyX9 tyX9_ok nmX9 (by decide) wd_4_177 rfl rfl rfl (Nat.le_of_ble_eq_true rfl) dX9_init_124 (fun Hs3 Ls3 ws3 => ?_)
  have hT : (((((((((([] : va_W) ++ j_w (yt_S 4) ty ad0 (mt_0)) ++ j_w (yt_S 4) ty ad1 (mt_0)) ++ j_w (yt_X2) ty ad2 (mt_X2)) ++ j_w (yt_X3) ty ad3 (mt_X3)) ++ j_w (yt_L 24) ty ad4 (mt_0)) ++ j_w (yt_X0) ty ad5 (mt_X0)) ++ j_w (yt_X1) ty ad6 (mt_X1)) ++ j_w (yt_X5) ty ad7 (mt_X5)) ++ j_w (yt_X6) ty ad8 (mt_X6)) = wt_f ty tl_X9 [ad0, ad1, ad2, ad3, ad4, ad5, ad6, ad7, ad8] := by
    simp only [wt_f, tl_X9, List.nil_append, List.append_nil, List.append_assoc]
  have w9 : JNW D A s.heap (j_w yt_X9 ty (at_tree a tl_X9 [ad0, ad1, ad2, ad3, ad4, ad5, ad6, ad7, ad8]) mt_X9) Hs3 Ls3 := by
    have e9 := wt_tree (ty := ty) (c := 9) (a := a) (T := tl_X9) (fs := [ad0, ad1, ad2, ad3, ad4, ad5, ad6, ad7, ad8]) (M0 := fun k => if k = 12 then 1 else 0) rfl tl_X9_cl
    unfold yt_X9 mt_X9
    rw [e9, ← hT]
    exact ws3
  exact kr _ _ _ _ _ _ (at_tree a tl_X9 [ad0, ad1, ad2, ad3, ad4, ad5, ad6, ad7, ad8]) rfl w9 rfl rfl dX9_init_127

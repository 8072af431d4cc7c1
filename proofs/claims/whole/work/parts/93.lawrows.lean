/-! ===== the law: rows of its loop ===== -/
abbrev jw_side (own : String) (index : Nat) (y : MethodName) (b : ByteArray) (n : Nat) (hh : List (Nat × Nat × Nat × Nat)) (k : Nat) : Prop := Cond.codeWith y b n (some .int) hh ∈ jwd ∧ Cond.initialized y.cls ∈ jwd ∧ Cond.methodLink own index y ∈ jwd ∧ (y.cls ≠ "java/lang/invoke/MethodHandle" ∧ y.cls ≠ "java/lang/invoke/VarHandle" ∧ (parseMethodDescriptor y.desc).map (fun d => d.parameters.length) = some k) ∧ Cond.static y ∈ jwd
theorem j_goodw {y : MethodName} {b : ByteArray} {n : Nat} {hh : List (Nat × Nat × Nat × Nat)} (h : Cond.codeWith y b n (some .int) hh ∈ jwd) : GoodIn jwd (j_wsW y b n hh) := fun w hw => (List.mem_cons.mp hw).elim (fun e => by subst e; exact ⟨h, Or.inl rfl⟩) (fun h => j_good w h)
section LWR
variable {p : Program} {l : Launch} {e : Env} {R : Room} {s : State} {m : MethodId} {args : Array Value} {below : List Frame} {meth : Method} {c : Code} {H : Heap} {locs : List Loc} {cells slots : Nat} {Q : State → Prop}
variable {pc : Nat} {ls : Array Slot} {rest : List Value} {D : va_G} {Y : JY} {ty : Nat → ClassId} {ad : Nat → Nat} {A : Nat → Prop} {M : JM} {L b i : Nat} {xs : Nat → Int32}
theorem jw_call {r : Int32} {M' : JM} {cc : ByteArray} {nL index : Nat} {own : String} {y : MethodName} {bb : ByteArray} {n : Nat} {hh : List (Nat × Nat × Nat × Nat)} {fr lo mc ms : Nat} (As rest : List Value) {st0 : List Value} (jc : JC D Y ty p s m args c cc nL own) (jx : JX A s s.heap) (w : JW D Y ty ad A s.heap M H locs) (hA : ∀ q, s.heap.size ≤ q → A q)
    (hM : JMw D Y ty ad H.size l y bb n hh fr lo mc ms As M r M') (sd : jw_side own index y bb n hh As.length) (hst : As.reverse ++ rest = st0) (hls : ls.size = nL) (hR : fr + 1 ≤ R.frames ∧ 8 + (n + 11) + lo ≤ R.locals ∧ cells + mc ≤ R.cells ∧ slots + ms ≤ R.slots) (hr8 : (rest.map fun v => v.category).sum ≤ 8) (hdg : decode cc pc = .ok (.invokestatic index, 3))
    (kk : ∀ (H1 : Heap) (locs1 : List Loc), JW D Y ty ad A s.heap M' H1 locs1 → W p l e R s m args below meth c H1 locs1 (cells + mc) (slots + ms) Q (F0 m (pc + 3) ls (.int r :: rest))) : W p l e R s m args below meth c H locs cells slots Q (F0 m pc ls st0) := by
  refine va_calli (vx_runSW (As := As) (rest := rest) (Ts := jwd) ⟨jc.1, jc.2.1, jc.2.2.1, jc.2.2.2.1, jc.2.2.2.2.1⟩ hM ⟨⟨rfl, rfl, hR.1, hR.2.1, pay_in jc.2.2.2.2.1 (j_goodw sd.1), List.mem_cons_self⟩, jc.2.2.2.2.1 _ sd.1, jc.2.2.2.2.1 _ sd.2.1, ⟨sd.2.2.2.1.1, sd.2.2.2.1.2.1⟩, fun sig h => by
    have h2 := sd.2.2.2.1.2.2
    rw [h] at h2
    exact (Option.some.inj h2).symm, jc.2.2.2.2.1 _ sd.2.2.1, jc.2.2.2.2.1 _ sd.2.2.2.2⟩ (j_preST jc jx w hA As) rfl rfl hls hst.symm (lv_room hr8) hdg hR.2.2) w.2.2 (fun q _ h => j_AA w hA q h) (fun q h => j_AA w hA q h) (fun r1 u t H1 locs1 ht hvm hw hB hz hk hS => ?_)
  obtain ⟨rfl, rfl⟩ := hw
  exact kk H1 locs1 (j_back w ht hB hS)
/-- what the law's body knows -/
abbrev lw_C (p : Program) (l : Launch) (R : Room) (s : State) (m : MethodId) (args : Array Value) (c : Code) (D : va_G) (Y : JY) (ty : Nat → ClassId) (A : Nat → Prop) (L b : Nat) (xs : Nat → Int32) : Prop :=
  JC D Y ty p s m args c cL_law 9 jlw ∧ JX A s s.heap ∧ (∀ q, s.heap.size ≤ q → A q) ∧ (va_X b L xs s s.heap ∧ b < s.heap.size ∧ ¬ A b ∧ L ≤ 2048) ∧ YH Y ∧ (j_kd Y 0 = 9 ∧ j_kd Y 140 = 10 ∧ j_kd Y 174 = 104 ∧ j_kd Y 175 = 105) ∧ l.stackTraces = false ∧ R.frames = 2048 ∧ R.locals = 94400
abbrev lw_ls (ad : Nat → Nat) (b i : Nat) : List (Nat × Value) := [(0, .ref b), (1, .ref (ad 0)), (2, .ref (ad 140)), (3, .ref (ad 174)), (4, .ref (ad 175)), (5, .int (nI (4 * i)))]
/-- the script's ints of a call -/
def lw_x (xs : Nat → Int32) (i j : Nat) : Int32 := xs (nI (4 * i + j)).toNatClampNeg
abbrev lw_K (p : Program) (l : Launch) (e : Env) (R : Room) (s : State) (m : MethodId) (args : Array Value) (below : List Frame) (meth : Method) (c : Code) (cells slots : Nat) (Q : State → Prop) (D : va_G) (Y : JY) (ty : Nat → ClassId) (ad : Nat → Nat) (A : Nat → Prop) (b i : Nat) : Prop :=
  ∀ (H : Heap) (locs : List Loc) (ls : Array Slot) (cells1 slots1 : Nat) (M : JM), JW D Y ty ad A s.heap M H locs → RLL M → lv_has ls 9 (lw_ls ad b i) → cells1 ≤ cells + 4 → slots1 ≤ slots + 24 → W p l e R s m args below meth c H locs cells1 slots1 Q (F0 m 2340 ls [])
theorem lw_arg {z : Int} (j : Nat) (K : lw_C p l R s m args c D Y ty A L b xs) (w : JW D Y ty ad A s.heap M H locs) (hi : 4 * i + 4 ≤ L) (hj : j < 4) (hz : Int32.ofInt z = nI j) (h0 : ls[0]? = some (.val (.ref b))) (h5 : ls[5]? = some (.val (.int (nI (4 * i)))))
    (d0 : decode cL_law pc = .ok (.aload_n 0, 1)) (d1 : decode cL_law (pc + 1) = .ok (.iload 5, 2)) (d2 : decode cL_law (pc + 3) = .ok (.iconst z, 1)) (d3 : decode cL_law (pc + 4) = .ok (.iadd, 1)) (d4 : decode cL_law (pc + 5) = .ok (.iaload, 1))
    (kk : W p l e R s m args below meth c H locs cells slots Q (F0 m (pc + 6) ls (.int (lw_x xs i j) :: rest))) : W p l e R s m args below meth c H locs cells slots Q (F0 m pc ls rest) := by
  obtain ⟨jc, jx, hA, ⟨hX, hbl, hbA, hL⟩, -⟩ := K
  have hx := jc.1
  have hb := jc.2.1
  refine lv_aload_n hx hb d0 rfl h0 ?_
  refine lv_iload hx hb d1 h5 ?_
  refine lv_iconst (v := nI j) hx hb d2 hz ?_
  refine lv_iadd hx hb d3 ?_
  rw [nI_add]
  exact va_sld hx hb hX hbl hbA w.2.2 (j_g_in (j_g_nI (by omega) (by omega))) d4 kk
theorem lw_tern {x : Int32} (hx : p.tables.exec = Jvm.exec) (hb : c.code = cL_law) (d0 : decode cL_law pc = .ok (.ifCond .eq 7, 3)) (d3 : decode cL_law (pc + 3) = .ok (.iconst 1, 1)) (d4 : decode cL_law (pc + 4) = .ok (.goto 4, 3)) (d7 : decode cL_law (pc + 7) = .ok (.iconst 0, 1))
    (kk : W p l e R s m args below meth c H locs cells slots Q (F0 m (pc + 8) ls (.int (j_z x) :: rest))) : W p l e R s m args below meth c H locs cells slots Q (F0 m pc ls (.int x :: rest)) := by
  refine lv_if_eq (tgt := pc + 7) hx hb d0 (by omega) (fun h => ?_) (fun h => ?_)
  · refine lv_iconst (v := 0) hx hb d7 (by decide) ?_
    have e : j_z x = 0 := if_pos h
    rw [e] at kk
    exact kk
  · refine lv_iconst (v := 1) hx hb d3 (by decide) ?_
    refine lv_goto (tgt := pc + 8) hx hb d4 (by omega) ?_
    have e : j_z x = 1 := if_neg h
    rw [e] at kk
    exact kk
theorem jdk_135 : yL_append.cls ≠ "java/lang/invoke/MethodHandle" ∧ yL_append.cls ≠ "java/lang/invoke/VarHandle" ∧ (parseMethodDescriptor yL_append.desc).map (fun d => d.parameters.length) = some 4 := by decide +kernel
theorem sd_W_135 : jw_side jlw 135 yL_append cL_append 5 [(0, 10, 13, 13), (0, 10, 17, 15)] 4 := ⟨wd_2_123, wd_1_0, wd_2_121, jdk_135, wd_2_122⟩
theorem jdk_140 : yX10_append.cls ≠ "java/lang/invoke/MethodHandle" ∧ yX10_append.cls ≠ "java/lang/invoke/VarHandle" ∧ (parseMethodDescriptor yX10_append.desc).map (fun d => d.parameters.length) = some 2 := by decide +kernel
theorem sd_W_140 : j_sideV jlw 140 RX10 yX10_append cX10_append 3 (some .int) 2 := ⟨⟨wd_7_12, wd_1_11, wd_7_9, jdk_140⟩, wd_7_10, wd_7_11⟩
theorem jdk_141 : yX10_thrown.cls ≠ "java/lang/invoke/MethodHandle" ∧ yX10_thrown.cls ≠ "java/lang/invoke/VarHandle" ∧ (parseMethodDescriptor yX10_thrown.desc).map (fun d => d.parameters.length) = some 0 := by decide +kernel
theorem sd_W_141 : j_sideV jlw 141 RX10 yX10_thrown cX10_thrown 1 (some .int) 0 := ⟨⟨wd_7_8, wd_1_11, wd_7_5, jdk_141⟩, wd_7_6, wd_7_7⟩
theorem jdk_144 : yL_insert.cls ≠ "java/lang/invoke/MethodHandle" ∧ yL_insert.cls ≠ "java/lang/invoke/VarHandle" ∧ (parseMethodDescriptor yL_insert.desc).map (fun d => d.parameters.length) = some 5 := by decide +kernel
theorem sd_W_144 : jw_side jlw 144 yL_insert cL_insert 6 [(0, 12, 15, 13), (0, 12, 19, 15), (0, 12, 23, 21)] 5 := ⟨wd_3_4, wd_1_0, wd_3_2, jdk_144, wd_3_3⟩
theorem jdk_147 : yX10_insert.cls ≠ "java/lang/invoke/MethodHandle" ∧ yX10_insert.cls ≠ "java/lang/invoke/VarHandle" ∧ (parseMethodDescriptor yX10_insert.desc).map (fun d => d.parameters.length) = some 3 := by decide +kernel
theorem sd_W_147 : j_sideV jlw 147 RX10 yX10_insert cX10_insert 5 (some .int) 3 := ⟨⟨wd_7_34, wd_1_11, wd_7_31, jdk_147⟩, wd_7_32, wd_7_33⟩
theorem jdk_148 : yL_delete.cls ≠ "java/lang/invoke/MethodHandle" ∧ yL_delete.cls ≠ "java/lang/invoke/VarHandle" ∧ (parseMethodDescriptor yL_delete.desc).map (fun d => d.parameters.length) = some 4 := by decide +kernel
theorem sd_W_148 : jw_side jlw 148 yL_delete cL_delete 5 [(0, 10, 13, 13), (0, 10, 17, 21)] 4 := ⟨wd_3_53, wd_1_0, wd_3_51, jdk_148, wd_3_52⟩
theorem jdk_150 : yX10_delete.cls ≠ "java/lang/invoke/MethodHandle" ∧ yX10_delete.cls ≠ "java/lang/invoke/VarHandle" ∧ (parseMethodDescriptor yX10_delete.desc).map (fun d => d.parameters.length) = some 2 := by decide +kernel
theorem sd_W_150 : j_sideV jlw 150 RX10 yX10_delete cX10_delete 5 (some .int) 2 := ⟨⟨wd_7_38, wd_1_11, wd_7_35, jdk_150⟩, wd_7_36, wd_7_37⟩
theorem jdk_151 : yL_length.cls ≠ "java/lang/invoke/MethodHandle" ∧ yL_length.cls ≠ "java/lang/invoke/VarHandle" ∧ (parseMethodDescriptor yL_length.desc).map (fun d => d.parameters.length) = some 3 := by decide +kernel
theorem sd_W_151 : jw_side jlw 151 yL_length cL_length 4 [(0, 9, 12, 13)] 3 := ⟨wd_3_69, wd_1_0, wd_3_67, jdk_151, wd_3_68⟩
theorem jdk_154 : yX10_length.cls ≠ "java/lang/invoke/MethodHandle" ∧ yX10_length.cls ≠ "java/lang/invoke/VarHandle" ∧ (parseMethodDescriptor yX10_length.desc).map (fun d => d.parameters.length) = some 1 := by decide +kernel
theorem sd_W_154 : j_sideV jlw 154 RX10 yX10_length cX10_length 2 (some .int) 1 := ⟨⟨wd_7_42, wd_1_11, wd_7_39, jdk_154⟩, wd_7_40, wd_7_41⟩
theorem jdk_155 : yL_line.cls ≠ "java/lang/invoke/MethodHandle" ∧ yL_line.cls ≠ "java/lang/invoke/VarHandle" ∧ (parseMethodDescriptor yL_line.desc).map (fun d => d.parameters.length) = some 4 := by decide +kernel
theorem sd_W_155 : jw_side jlw 155 yL_line cL_line 5 [(0, 10, 13, 13), (0, 10, 17, 21)] 4 := ⟨wd_3_76, wd_1_0, wd_3_74, jdk_155, wd_3_75⟩
theorem jdk_157 : yX10_line.cls ≠ "java/lang/invoke/MethodHandle" ∧ yX10_line.cls ≠ "java/lang/invoke/VarHandle" ∧ (parseMethodDescriptor yX10_line.desc).map (fun d => d.parameters.length) = some 2 := by decide +kernel
theorem sd_W_157 : j_sideV jlw 157 RX10 yX10_line cX10_line 3 (some .int) 2 := ⟨⟨wd_7_46, wd_1_11, wd_7_43, jdk_157⟩, wd_7_44, wd_7_45⟩
theorem jdk_158 : yL_copy.cls ≠ "java/lang/invoke/MethodHandle" ∧ yL_copy.cls ≠ "java/lang/invoke/VarHandle" ∧ (parseMethodDescriptor yL_copy.desc).map (fun d => d.parameters.length) = some 4 := by decide +kernel
theorem sd_W_158 : jw_side jlw 158 yL_copy cL_copy 5 [(0, 10, 13, 13)] 4 := ⟨wd_3_84, wd_1_0, wd_3_82, jdk_158, wd_3_83⟩
theorem jdk_160 : yX10_copy.cls ≠ "java/lang/invoke/MethodHandle" ∧ yX10_copy.cls ≠ "java/lang/invoke/VarHandle" ∧ (parseMethodDescriptor yX10_copy.desc).map (fun d => d.parameters.length) = some 2 := by decide +kernel
theorem sd_W_160 : j_sideV jlw 160 RX10 yX10_copy cX10_copy 4 (some .int) 2 := ⟨⟨wd_7_50, wd_1_11, wd_7_47, jdk_160⟩, wd_7_48, wd_7_49⟩
theorem jdk_161 : yL_isSame.cls ≠ "java/lang/invoke/MethodHandle" ∧ yL_isSame.cls ≠ "java/lang/invoke/VarHandle" ∧ (parseMethodDescriptor yL_isSame.desc).map (fun d => d.parameters.length) = some 4 := by decide +kernel
theorem sd_W_161 : jw_side jlw 161 yL_isSame cL_isSame 5 [(0, 17, 20, 13)] 4 := ⟨wd_3_96, wd_1_0, wd_3_94, jdk_161, wd_3_95⟩
theorem jdk_163 : yX10_isSame.cls ≠ "java/lang/invoke/MethodHandle" ∧ yX10_isSame.cls ≠ "java/lang/invoke/VarHandle" ∧ (parseMethodDescriptor yX10_isSame.desc).map (fun d => d.parameters.length) = some 2 := by decide +kernel
theorem sd_W_163 : j_sideV jlw 163 RX10 yX10_isSame cX10_isSame 5 (some .boolean) 2 := ⟨⟨wd_7_58, wd_1_11, wd_7_55, jdk_163⟩, wd_7_56, wd_7_57⟩
theorem jdk_164 : yL_distance.cls ≠ "java/lang/invoke/MethodHandle" ∧ yL_distance.cls ≠ "java/lang/invoke/VarHandle" ∧ (parseMethodDescriptor yL_distance.desc).map (fun d => d.parameters.length) = some 4 := by decide +kernel
theorem sd_W_164 : jw_side jlw 164 yL_distance cL_distance 5 [(0, 10, 13, 13)] 4 := ⟨wd_3_107, wd_1_0, wd_3_105, jdk_164, wd_3_106⟩
theorem jdk_166 : yX10_distance.cls ≠ "java/lang/invoke/MethodHandle" ∧ yX10_distance.cls ≠ "java/lang/invoke/VarHandle" ∧ (parseMethodDescriptor yX10_distance.desc).map (fun d => d.parameters.length) = some 2 := by decide +kernel
theorem sd_W_166 : j_sideV jlw 166 RX10 yX10_distance cX10_distance 5 (some .int) 2 := ⟨⟨wd_7_93, wd_1_11, wd_7_90, jdk_166⟩, wd_7_91, wd_7_92⟩
theorem jdk_167 : yL_feed.cls ≠ "java/lang/invoke/MethodHandle" ∧ yL_feed.cls ≠ "java/lang/invoke/VarHandle" ∧ (parseMethodDescriptor yL_feed.desc).map (fun d => d.parameters.length) = some 3 := by decide +kernel
theorem sd_W_167 : jw_side jlw 167 yL_feed cL_feed 4 [(0, 9, 12, 15)] 3 := ⟨wd_3_168, wd_1_0, wd_3_166, jdk_167, wd_3_167⟩
theorem jdk_170 : yX10_feed.cls ≠ "java/lang/invoke/MethodHandle" ∧ yX10_feed.cls ≠ "java/lang/invoke/VarHandle" ∧ (parseMethodDescriptor yX10_feed.desc).map (fun d => d.parameters.length) = some 1 := by decide +kernel
theorem sd_W_170 : j_sideV jlw 170 RX10 yX10_feed cX10_feed 2 (some .int) 1 := ⟨⟨wd_7_70, wd_1_11, wd_7_67, jdk_170⟩, wd_7_68, wd_7_69⟩
theorem jdk_171 : yL_readDocument.cls ≠ "java/lang/invoke/MethodHandle" ∧ yL_readDocument.cls ≠ "java/lang/invoke/VarHandle" ∧ (parseMethodDescriptor yL_readDocument.desc).map (fun d => d.parameters.length) = some 3 := by decide +kernel
theorem sd_W_171 : jw_side jlw 171 yL_readDocument cL_readDocument 4 [(0, 9, 12, 13), (0, 9, 15, 15)] 3 := ⟨wd_3_190, wd_1_0, wd_3_188, jdk_171, wd_3_189⟩
theorem jdk_173 : yX10_readDocument.cls ≠ "java/lang/invoke/MethodHandle" ∧ yX10_readDocument.cls ≠ "java/lang/invoke/VarHandle" ∧ (parseMethodDescriptor yX10_readDocument.desc).map (fun d => d.parameters.length) = some 1 := by decide +kernel
theorem sd_W_173 : j_sideV jlw 173 RX10 yX10_readDocument cX10_readDocument 3 (some .int) 1 := ⟨⟨wd_7_74, wd_1_11, wd_7_71, jdk_173⟩, wd_7_72, wd_7_73⟩
theorem jdk_174 : yL_setMode.cls ≠ "java/lang/invoke/MethodHandle" ∧ yL_setMode.cls ≠ "java/lang/invoke/VarHandle" ∧ (parseMethodDescriptor yL_setMode.desc).map (fun d => d.parameters.length) = some 3 := by decide +kernel
theorem sd_W_174 : jw_side jlw 174 yL_setMode cL_setMode 4 [(0, 9, 12, 13)] 3 := ⟨wd_3_226, wd_1_0, wd_3_224, jdk_174, wd_3_225⟩
theorem jdk_176 : yX10_setMode.cls ≠ "java/lang/invoke/MethodHandle" ∧ yX10_setMode.cls ≠ "java/lang/invoke/VarHandle" ∧ (parseMethodDescriptor yX10_setMode.desc).map (fun d => d.parameters.length) = some 1 := by decide +kernel
theorem sd_W_176 : j_sideV jlw 176 RX10 yX10_setMode cX10_setMode 3 (some .int) 1 := ⟨⟨wd_7_112, wd_1_11, wd_7_109, jdk_176⟩, wd_7_110, wd_7_111⟩
theorem jdk_177 : yL_compare.cls ≠ "java/lang/invoke/MethodHandle" ∧ yL_compare.cls ≠ "java/lang/invoke/VarHandle" ∧ (parseMethodDescriptor yL_compare.desc).map (fun d => d.parameters.length) = some 4 := by decide +kernel
theorem sd_W_177 : jw_side jlw 177 yL_compare cL_compare 5 [(0, 10, 13, 13)] 4 := ⟨wd_3_234, wd_1_0, wd_3_232, jdk_177, wd_3_233⟩
theorem jdk_179 : yX10_compare.cls ≠ "java/lang/invoke/MethodHandle" ∧ yX10_compare.cls ≠ "java/lang/invoke/VarHandle" ∧ (parseMethodDescriptor yX10_compare.desc).map (fun d => d.parameters.length) = some 2 := by decide +kernel
theorem sd_W_179 : j_sideV jlw 179 RX10 yX10_compare cX10_compare 3 (some .int) 2 := ⟨⟨wd_7_116, wd_1_11, wd_7_113, jdk_179⟩, wd_7_114, wd_7_115⟩
theorem jdk_180 : yL_partner.cls ≠ "java/lang/invoke/MethodHandle" ∧ yL_partner.cls ≠ "java/lang/invoke/VarHandle" ∧ (parseMethodDescriptor yL_partner.desc).map (fun d => d.parameters.length) = some 3 := by decide +kernel
theorem sd_W_180 : jw_side jlw 180 yL_partner cL_partner 4 [(0, 9, 12, 15), (0, 9, 15, 21)] 3 := ⟨wd_4_34, wd_1_0, wd_4_32, jdk_180, wd_4_33⟩
theorem jdk_182 : yX10_partner.cls ≠ "java/lang/invoke/MethodHandle" ∧ yX10_partner.cls ≠ "java/lang/invoke/VarHandle" ∧ (parseMethodDescriptor yX10_partner.desc).map (fun d => d.parameters.length) = some 1 := by decide +kernel
theorem sd_W_182 : j_sideV jlw 182 RX10 yX10_partner cX10_partner 2 (some .int) 1 := ⟨⟨wd_7_143, wd_1_11, wd_7_140, jdk_182⟩, wd_7_141, wd_7_142⟩
theorem jdk_183 : yL_anchors.cls ≠ "java/lang/invoke/MethodHandle" ∧ yL_anchors.cls ≠ "java/lang/invoke/VarHandle" ∧ (parseMethodDescriptor yL_anchors.desc).map (fun d => d.parameters.length) = some 2 := by decide +kernel
theorem sd_W_183 : jw_side jlw 183 yL_anchors cL_anchors 3 [(0, 8, 11, 15)] 2 := ⟨wd_4_59, wd_1_0, wd_4_57, jdk_183, wd_4_58⟩
theorem jdk_186 : yX10_anchors.cls ≠ "java/lang/invoke/MethodHandle" ∧ yX10_anchors.cls ≠ "java/lang/invoke/VarHandle" ∧ (parseMethodDescriptor yX10_anchors.desc).map (fun d => d.parameters.length) = some 0 := by decide +kernel
theorem sd_W_186 : j_sideV jlw 186 RX10 yX10_anchors cX10_anchors 1 (some .int) 0 := ⟨⟨wd_7_147, wd_1_11, wd_7_144, jdk_186⟩, wd_7_145, wd_7_146⟩
theorem jdk_187 : yL_differences.cls ≠ "java/lang/invoke/MethodHandle" ∧ yL_differences.cls ≠ "java/lang/invoke/VarHandle" ∧ (parseMethodDescriptor yL_differences.desc).map (fun d => d.parameters.length) = some 2 := by decide +kernel
theorem sd_W_187 : jw_side jlw 187 yL_differences cL_differences 3 [(0, 8, 11, 15)] 2 := ⟨wd_4_70, wd_1_0, wd_4_68, jdk_187, wd_4_69⟩
theorem jdk_189 : yX10_differences.cls ≠ "java/lang/invoke/MethodHandle" ∧ yX10_differences.cls ≠ "java/lang/invoke/VarHandle" ∧ (parseMethodDescriptor yX10_differences.desc).map (fun d => d.parameters.length) = some 0 := by decide +kernel
theorem sd_W_189 : j_sideV jlw 189 RX10 yX10_differences cX10_differences 1 (some .int) 0 := ⟨⟨wd_7_151, wd_1_11, wd_7_148, jdk_189⟩, wd_7_149, wd_7_150⟩
theorem jdk_190 : yL_difference.cls ≠ "java/lang/invoke/MethodHandle" ∧ yL_difference.cls ≠ "java/lang/invoke/VarHandle" ∧ (parseMethodDescriptor yL_difference.desc).map (fun d => d.parameters.length) = some 4 := by decide +kernel
theorem sd_W_190 : jw_side jlw 190 yL_difference cL_difference 5 [(0, 10, 13, 15), (0, 10, 17, 21), (0, 10, 21, 13)] 4 := ⟨wd_4_85, wd_1_0, wd_4_83, jdk_190, wd_4_84⟩
theorem jdk_192 : yX10_difference.cls ≠ "java/lang/invoke/MethodHandle" ∧ yX10_difference.cls ≠ "java/lang/invoke/VarHandle" ∧ (parseMethodDescriptor yX10_difference.desc).map (fun d => d.parameters.length) = some 2 := by decide +kernel
theorem sd_W_192 : j_sideV jlw 192 RX10 yX10_difference cX10_difference 3 (some .int) 2 := ⟨⟨wd_7_155, wd_1_11, wd_7_152, jdk_192⟩, wd_7_153, wd_7_154⟩
theorem jdk_193 : yL_step.cls ≠ "java/lang/invoke/MethodHandle" ∧ yL_step.cls ≠ "java/lang/invoke/VarHandle" ∧ (parseMethodDescriptor yL_step.desc).map (fun d => d.parameters.length) = some 3 := by decide +kernel
theorem sd_W_193 : jw_side jlw 193 yL_step cL_step 4 [(0, 9, 12, 15), (0, 9, 15, 72)] 3 := ⟨wd_4_102, wd_1_0, wd_4_100, jdk_193, wd_4_101⟩
theorem jdk_195 : yX10_step.cls ≠ "java/lang/invoke/MethodHandle" ∧ yX10_step.cls ≠ "java/lang/invoke/VarHandle" ∧ (parseMethodDescriptor yX10_step.desc).map (fun d => d.parameters.length) = some 1 := by decide +kernel
theorem sd_W_195 : j_sideV jlw 195 RX10 yX10_step cX10_step 8 (some .int) 1 := ⟨⟨wd_7_159, wd_1_11, wd_7_156, jdk_195⟩, wd_7_157, wd_7_158⟩
theorem jdk_196 : yL_similarity.cls ≠ "java/lang/invoke/MethodHandle" ∧ yL_similarity.cls ≠ "java/lang/invoke/VarHandle" ∧ (parseMethodDescriptor yL_similarity.desc).map (fun d => d.parameters.length) = some 2 := by decide +kernel
theorem sd_W_196 : jw_side jlw 196 yL_similarity cL_similarity 3 [(0, 7, 10, 15), (0, 7, 13, 78)] 2 := ⟨wd_4_130, wd_1_0, wd_4_128, jdk_196, wd_4_129⟩
theorem jdk_199 : yX10_similarity.cls ≠ "java/lang/invoke/MethodHandle" ∧ yX10_similarity.cls ≠ "java/lang/invoke/VarHandle" ∧ (parseMethodDescriptor yX10_similarity.desc).map (fun d => d.parameters.length) = some 0 := by decide +kernel
theorem sd_W_199 : j_sideV jlw 199 RX10 yX10_similarity cX10_similarity 1 (some .double) 0 := ⟨⟨wd_7_163, wd_1_11, wd_7_160, jdk_199⟩, wd_7_161, wd_7_162⟩
theorem jdk_200 : yL_findMoves.cls ≠ "java/lang/invoke/MethodHandle" ∧ yL_findMoves.cls ≠ "java/lang/invoke/VarHandle" ∧ (parseMethodDescriptor yL_findMoves.desc).map (fun d => d.parameters.length) = some 3 := by decide +kernel
theorem sd_W_200 : jw_side jlw 200 yL_findMoves cL_findMoves 4 [(0, 9, 12, 13), (0, 9, 15, 15)] 3 := ⟨wd_4_158, wd_1_0, wd_4_156, jdk_200, wd_4_157⟩
theorem jdk_202 : yX10_findMoves.cls ≠ "java/lang/invoke/MethodHandle" ∧ yX10_findMoves.cls ≠ "java/lang/invoke/VarHandle" ∧ (parseMethodDescriptor yX10_findMoves.desc).map (fun d => d.parameters.length) = some 1 := by decide +kernel
theorem sd_W_202 : j_sideV jlw 202 RX10 yX10_findMoves cX10_findMoves 8 (some .int) 1 := ⟨⟨wd_7_167, wd_1_11, wd_7_164, jdk_202⟩, wd_7_165, wd_7_166⟩
theorem jdk_203 : yL_move.cls ≠ "java/lang/invoke/MethodHandle" ∧ yL_move.cls ≠ "java/lang/invoke/VarHandle" ∧ (parseMethodDescriptor yL_move.desc).map (fun d => d.parameters.length) = some 4 := by decide +kernel
theorem sd_W_203 : jw_side jlw 203 yL_move cL_move 5 [(0, 10, 13, 21), (0, 10, 17, 13)] 4 := ⟨wd_4_196, wd_1_0, wd_4_194, jdk_203, wd_4_195⟩
theorem jdk_205 : yX10_move.cls ≠ "java/lang/invoke/MethodHandle" ∧ yX10_move.cls ≠ "java/lang/invoke/VarHandle" ∧ (parseMethodDescriptor yX10_move.desc).map (fun d => d.parameters.length) = some 2 := by decide +kernel
theorem sd_W_205 : j_sideV jlw 205 RX10 yX10_move cX10_move 3 (some .int) 2 := ⟨⟨wd_7_179, wd_1_11, wd_7_176, jdk_205⟩, wd_7_177, wd_7_178⟩
theorem jdk_206 : yX9_setShrinking.cls ≠ "java/lang/invoke/MethodHandle" ∧ yX9_setShrinking.cls ≠ "java/lang/invoke/VarHandle" ∧ (parseMethodDescriptor yX9_setShrinking.desc).map (fun d => d.parameters.length) = some 1 := by decide +kernel
theorem sd_W_206 : j_sideV jlw 206 RX9 yX9_setShrinking cX9_setShrinking 3 (some .boolean) 1 := ⟨⟨wd_2_87, wd_1_1, wd_2_84, jdk_206⟩, wd_2_85, wd_2_86⟩
theorem jdk_210 : yX10_setShrinking.cls ≠ "java/lang/invoke/MethodHandle" ∧ yX10_setShrinking.cls ≠ "java/lang/invoke/VarHandle" ∧ (parseMethodDescriptor yX10_setShrinking.desc).map (fun d => d.parameters.length) = some 1 := by decide +kernel
theorem sd_W_210 : j_sideV jlw 210 RX10 yX10_setShrinking cX10_setShrinking 3 (some .boolean) 1 := ⟨⟨wd_7_183, wd_1_11, wd_7_180, jdk_210⟩, wd_7_181, wd_7_182⟩
theorem jdk_211 : yL_merge.cls ≠ "java/lang/invoke/MethodHandle" ∧ yL_merge.cls ≠ "java/lang/invoke/VarHandle" ∧ (parseMethodDescriptor yL_merge.desc).map (fun d => d.parameters.length) = some 5 := by decide +kernel
theorem sd_W_211 : jw_side jlw 211 yL_merge cL_merge 6 [(0, 12, 15, 13)] 5 := ⟨wd_4_207, wd_1_0, wd_4_205, jdk_211, wd_4_206⟩
theorem jdk_213 : yX10_merge.cls ≠ "java/lang/invoke/MethodHandle" ∧ yX10_merge.cls ≠ "java/lang/invoke/VarHandle" ∧ (parseMethodDescriptor yX10_merge.desc).map (fun d => d.parameters.length) = some 3 := by decide +kernel
theorem sd_W_213 : j_sideV jlw 213 RX10 yX10_merge cX10_merge 13 (some .int) 3 := ⟨⟨wd_7_187, wd_1_11, wd_7_184, jdk_213⟩, wd_7_185, wd_7_186⟩
theorem jdk_214 : yL_chunks.cls ≠ "java/lang/invoke/MethodHandle" ∧ yL_chunks.cls ≠ "java/lang/invoke/VarHandle" ∧ (parseMethodDescriptor yL_chunks.desc).map (fun d => d.parameters.length) = some 2 := by decide +kernel
theorem sd_W_214 : jw_side jlw 214 yL_chunks cL_chunks 3 [(0, 8, 11, 15)] 2 := ⟨wd_5_52, wd_1_0, wd_5_50, jdk_214, wd_5_51⟩
theorem jdk_216 : yX10_chunks.cls ≠ "java/lang/invoke/MethodHandle" ∧ yX10_chunks.cls ≠ "java/lang/invoke/VarHandle" ∧ (parseMethodDescriptor yX10_chunks.desc).map (fun d => d.parameters.length) = some 0 := by decide +kernel
theorem sd_W_216 : j_sideV jlw 216 RX10 yX10_chunks cX10_chunks 1 (some .int) 0 := ⟨⟨wd_7_206, wd_1_11, wd_7_203, jdk_216⟩, wd_7_204, wd_7_205⟩
theorem jdk_217 : yL_chunk.cls ≠ "java/lang/invoke/MethodHandle" ∧ yL_chunk.cls ≠ "java/lang/invoke/VarHandle" ∧ (parseMethodDescriptor yL_chunk.desc).map (fun d => d.parameters.length) = some 4 := by decide +kernel
theorem sd_W_217 : jw_side jlw 217 yL_chunk cL_chunk 5 [(0, 10, 13, 15), (0, 10, 17, 21), (0, 10, 21, 13)] 4 := ⟨wd_5_72, wd_1_0, wd_5_70, jdk_217, wd_5_71⟩
theorem jdk_219 : yX10_chunk.cls ≠ "java/lang/invoke/MethodHandle" ∧ yX10_chunk.cls ≠ "java/lang/invoke/VarHandle" ∧ (parseMethodDescriptor yX10_chunk.desc).map (fun d => d.parameters.length) = some 2 := by decide +kernel
theorem sd_W_219 : j_sideV jlw 219 RX10 yX10_chunk cX10_chunk 3 (some .int) 2 := ⟨⟨wd_7_210, wd_1_11, wd_7_207, jdk_219⟩, wd_7_208, wd_7_209⟩
theorem jdk_220 : yL_resolve.cls ≠ "java/lang/invoke/MethodHandle" ∧ yL_resolve.cls ≠ "java/lang/invoke/VarHandle" ∧ (parseMethodDescriptor yL_resolve.desc).map (fun d => d.parameters.length) = some 4 := by decide +kernel
theorem sd_W_220 : jw_side jlw 220 yL_resolve cL_resolve 5 [(0, 10, 13, 15), (0, 10, 17, 72), (0, 10, 21, 13)] 4 := ⟨wd_5_79, wd_1_0, wd_5_77, jdk_220, wd_5_78⟩
theorem jdk_222 : yX10_resolve.cls ≠ "java/lang/invoke/MethodHandle" ∧ yX10_resolve.cls ≠ "java/lang/invoke/VarHandle" ∧ (parseMethodDescriptor yX10_resolve.desc).map (fun d => d.parameters.length) = some 2 := by decide +kernel
theorem sd_W_222 : j_sideV jlw 222 RX10 yX10_resolve cX10_resolve 5 (some .int) 2 := ⟨⟨wd_7_214, wd_1_11, wd_7_211, jdk_222⟩, wd_7_212, wd_7_213⟩
theorem jdk_223 : yL_unresolved.cls ≠ "java/lang/invoke/MethodHandle" ∧ yL_unresolved.cls ≠ "java/lang/invoke/VarHandle" ∧ (parseMethodDescriptor yL_unresolved.desc).map (fun d => d.parameters.length) = some 2 := by decide +kernel
theorem sd_W_223 : jw_side jlw 223 yL_unresolved cL_unresolved 3 [(0, 8, 11, 15)] 2 := ⟨wd_5_101, wd_1_0, wd_5_99, jdk_223, wd_5_100⟩
theorem jdk_225 : yX10_unresolved.cls ≠ "java/lang/invoke/MethodHandle" ∧ yX10_unresolved.cls ≠ "java/lang/invoke/VarHandle" ∧ (parseMethodDescriptor yX10_unresolved.desc).map (fun d => d.parameters.length) = some 0 := by decide +kernel
theorem sd_W_225 : j_sideV jlw 225 RX10 yX10_unresolved cX10_unresolved 1 (some .int) 0 := ⟨⟨wd_7_230, wd_1_11, wd_7_227, jdk_225⟩, wd_7_228, wd_7_229⟩
theorem jdk_226 : yL_mergedLength.cls ≠ "java/lang/invoke/MethodHandle" ∧ yL_mergedLength.cls ≠ "java/lang/invoke/VarHandle" ∧ (parseMethodDescriptor yL_mergedLength.desc).map (fun d => d.parameters.length) = some 2 := by decide +kernel
theorem sd_W_226 : jw_side jlw 226 yL_mergedLength cL_mergedLength 3 [(0, 8, 11, 15)] 2 := ⟨wd_5_112, wd_1_0, wd_5_110, jdk_226, wd_5_111⟩
theorem jdk_228 : yX10_mergedLength.cls ≠ "java/lang/invoke/MethodHandle" ∧ yX10_mergedLength.cls ≠ "java/lang/invoke/VarHandle" ∧ (parseMethodDescriptor yX10_mergedLength.desc).map (fun d => d.parameters.length) = some 0 := by decide +kernel
theorem sd_W_228 : j_sideV jlw 228 RX10 yX10_mergedLength cX10_mergedLength 1 (some .int) 0 := ⟨⟨wd_7_238, wd_1_11, wd_7_235, jdk_228⟩, wd_7_236, wd_7_237⟩
theorem jdk_229 : yL_merged.cls ≠ "java/lang/invoke/MethodHandle" ∧ yL_merged.cls ≠ "java/lang/invoke/VarHandle" ∧ (parseMethodDescriptor yL_merged.desc).map (fun d => d.parameters.length) = some 3 := by decide +kernel
theorem sd_W_229 : jw_side jlw 229 yL_merged cL_merged 4 [(0, 9, 12, 15), (0, 9, 15, 21)] 3 := ⟨wd_5_123, wd_1_0, wd_5_121, jdk_229, wd_5_122⟩
theorem jdk_231 : yX10_merged.cls ≠ "java/lang/invoke/MethodHandle" ∧ yX10_merged.cls ≠ "java/lang/invoke/VarHandle" ∧ (parseMethodDescriptor yX10_merged.desc).map (fun d => d.parameters.length) = some 1 := by decide +kernel
theorem sd_W_231 : j_sideV jlw 231 RX10 yX10_merged cX10_merged 2 (some .int) 1 := ⟨⟨wd_8_6, wd_1_11, wd_8_3, jdk_231⟩, wd_8_4, wd_8_5⟩
theorem jdk_232 : yL_accept.cls ≠ "java/lang/invoke/MethodHandle" ∧ yL_accept.cls ≠ "java/lang/invoke/VarHandle" ∧ (parseMethodDescriptor yL_accept.desc).map (fun d => d.parameters.length) = some 3 := by decide +kernel
theorem sd_W_232 : jw_side jlw 232 yL_accept cL_accept 4 [(0, 9, 12, 13), (0, 9, 15, 15), (0, 9, 18, 110)] 3 := ⟨wd_5_130, wd_1_0, wd_5_128, jdk_232, wd_5_129⟩
theorem jdk_234 : yX10_accept.cls ≠ "java/lang/invoke/MethodHandle" ∧ yX10_accept.cls ≠ "java/lang/invoke/VarHandle" ∧ (parseMethodDescriptor yX10_accept.desc).map (fun d => d.parameters.length) = some 1 := by decide +kernel
theorem sd_W_234 : j_sideV jlw 234 RX10 yX10_accept cX10_accept 2 (some .int) 1 := ⟨⟨wd_8_10, wd_1_11, wd_8_7, jdk_234⟩, wd_8_8, wd_8_9⟩
theorem jdk_235 : yL_makePatch.cls ≠ "java/lang/invoke/MethodHandle" ∧ yL_makePatch.cls ≠ "java/lang/invoke/VarHandle" ∧ (parseMethodDescriptor yL_makePatch.desc).map (fun d => d.parameters.length) = some 3 := by decide +kernel
theorem sd_W_235 : jw_side jlw 235 yL_makePatch cL_makePatch 4 [(0, 9, 12, 13), (0, 9, 15, 15)] 3 := ⟨wd_5_155, wd_1_0, wd_5_153, jdk_235, wd_5_154⟩
theorem jdk_237 : yX10_makePatch.cls ≠ "java/lang/invoke/MethodHandle" ∧ yX10_makePatch.cls ≠ "java/lang/invoke/VarHandle" ∧ (parseMethodDescriptor yX10_makePatch.desc).map (fun d => d.parameters.length) = some 1 := by decide +kernel
theorem sd_W_237 : j_sideV jlw 237 RX10 yX10_makePatch cX10_makePatch 7 (some .int) 1 := ⟨⟨wd_8_14, wd_1_11, wd_8_11, jdk_237⟩, wd_8_12, wd_8_13⟩
theorem jdk_238 : yL_hunk.cls ≠ "java/lang/invoke/MethodHandle" ∧ yL_hunk.cls ≠ "java/lang/invoke/VarHandle" ∧ (parseMethodDescriptor yL_hunk.desc).map (fun d => d.parameters.length) = some 4 := by decide +kernel
theorem sd_W_238 : jw_side jlw 238 yL_hunk cL_hunk 5 [(0, 10, 13, 15), (0, 10, 17, 21), (0, 10, 21, 13)] 4 := ⟨wd_5_186, wd_1_0, wd_5_184, jdk_238, wd_5_185⟩
theorem jdk_240 : yX10_hunk.cls ≠ "java/lang/invoke/MethodHandle" ∧ yX10_hunk.cls ≠ "java/lang/invoke/VarHandle" ∧ (parseMethodDescriptor yX10_hunk.desc).map (fun d => d.parameters.length) = some 2 := by decide +kernel
theorem sd_W_240 : j_sideV jlw 240 RX10 yX10_hunk cX10_hunk 3 (some .int) 2 := ⟨⟨wd_8_21, wd_1_11, wd_8_18, jdk_240⟩, wd_8_19, wd_8_20⟩
theorem jdk_241 : yL_apply.cls ≠ "java/lang/invoke/MethodHandle" ∧ yL_apply.cls ≠ "java/lang/invoke/VarHandle" ∧ (parseMethodDescriptor yL_apply.desc).map (fun d => d.parameters.length) = some 5 := by decide +kernel
theorem sd_W_241 : jw_side jlw 241 yL_apply cL_apply 6 [(0, 12, 15, 13), (0, 12, 19, 15), (0, 12, 23, 110)] 5 := ⟨wd_5_206, wd_1_0, wd_5_204, jdk_241, wd_5_205⟩
theorem jdk_244 : yX10_apply.cls ≠ "java/lang/invoke/MethodHandle" ∧ yX10_apply.cls ≠ "java/lang/invoke/VarHandle" ∧ (parseMethodDescriptor yX10_apply.desc).map (fun d => d.parameters.length) = some 3 := by decide +kernel
theorem sd_W_244 : j_sideV jlw 244 RX10 yX10_apply cX10_apply 8 (some .int) 3 := ⟨⟨wd_8_25, wd_1_11, wd_8_22, jdk_244⟩, wd_8_23, wd_8_24⟩
theorem jdk_245 : yL_outcome.cls ≠ "java/lang/invoke/MethodHandle" ∧ yL_outcome.cls ≠ "java/lang/invoke/VarHandle" ∧ (parseMethodDescriptor yL_outcome.desc).map (fun d => d.parameters.length) = some 4 := by decide +kernel
theorem sd_W_245 : jw_side jlw 245 yL_outcome cL_outcome 5 [(0, 10, 13, 72), (0, 10, 17, 13)] 4 := ⟨wd_6_14, wd_1_0, wd_6_12, jdk_245, wd_6_13⟩
theorem jdk_247 : yX10_outcome.cls ≠ "java/lang/invoke/MethodHandle" ∧ yX10_outcome.cls ≠ "java/lang/invoke/VarHandle" ∧ (parseMethodDescriptor yX10_outcome.desc).map (fun d => d.parameters.length) = some 2 := by decide +kernel
theorem sd_W_247 : j_sideV jlw 247 RX10 yX10_outcome cX10_outcome 3 (some .int) 2 := ⟨⟨wd_8_41, wd_1_11, wd_8_38, jdk_247⟩, wd_8_39, wd_8_40⟩
theorem jdk_248 : yL_undo.cls ≠ "java/lang/invoke/MethodHandle" ∧ yL_undo.cls ≠ "java/lang/invoke/VarHandle" ∧ (parseMethodDescriptor yL_undo.desc).map (fun d => d.parameters.length) = some 2 := by decide +kernel
theorem sd_W_248 : jw_side jlw 248 yL_undo cL_undo 3 [(0, 8, 11, 15)] 2 := ⟨wd_6_26, wd_1_0, wd_6_24, jdk_248, wd_6_25⟩
theorem jdk_250 : yX10_undo.cls ≠ "java/lang/invoke/MethodHandle" ∧ yX10_undo.cls ≠ "java/lang/invoke/VarHandle" ∧ (parseMethodDescriptor yX10_undo.desc).map (fun d => d.parameters.length) = some 0 := by decide +kernel
theorem sd_W_250 : j_sideV jlw 250 RX10 yX10_undo cX10_undo 3 (some .int) 0 := ⟨⟨wd_8_45, wd_1_11, wd_8_42, jdk_250⟩, wd_8_43, wd_8_44⟩
theorem jdk_251 : yX9_save.cls ≠ "java/lang/invoke/MethodHandle" ∧ yX9_save.cls ≠ "java/lang/invoke/VarHandle" ∧ (parseMethodDescriptor yX9_save.desc).map (fun d => d.parameters.length) = some 0 := by decide +kernel
theorem sd_W_251 : j_sideV jlw 251 RX9 yX9_save cX9_save 1 (some .int) 0 := ⟨⟨wd_2_91, wd_1_1, wd_2_88, jdk_251⟩, wd_2_89, wd_2_90⟩
theorem jdk_254 : yX10_save.cls ≠ "java/lang/invoke/MethodHandle" ∧ yX10_save.cls ≠ "java/lang/invoke/VarHandle" ∧ (parseMethodDescriptor yX10_save.desc).map (fun d => d.parameters.length) = some 0 := by decide +kernel
theorem sd_W_254 : j_sideV jlw 254 RX10 yX10_save cX10_save 2 (some .int) 0 := ⟨⟨wd_8_49, wd_1_11, wd_8_46, jdk_254⟩, wd_8_47, wd_8_48⟩
theorem jdk_255 : yL_restore.cls ≠ "java/lang/invoke/MethodHandle" ∧ yL_restore.cls ≠ "java/lang/invoke/VarHandle" ∧ (parseMethodDescriptor yL_restore.desc).map (fun d => d.parameters.length) = some 2 := by decide +kernel
theorem sd_W_255 : jw_side jlw 255 yL_restore cL_restore 3 [(0, 8, 11, 15)] 2 := ⟨wd_6_43, wd_1_0, wd_6_41, jdk_255, wd_6_42⟩
theorem jdk_257 : yX10_restore.cls ≠ "java/lang/invoke/MethodHandle" ∧ yX10_restore.cls ≠ "java/lang/invoke/VarHandle" ∧ (parseMethodDescriptor yX10_restore.desc).map (fun d => d.parameters.length) = some 0 := by decide +kernel
theorem sd_W_257 : j_sideV jlw 257 RX10 yX10_restore cX10_restore 2 (some .int) 0 := ⟨⟨wd_8_57, wd_1_11, wd_8_54, jdk_257⟩, wd_8_55, wd_8_56⟩
theorem lw_hR {fr lo n mc ms : Nat} (hf : R.frames = 2048) (hl : R.locals = 94400) (h1 : Nat.ble (fr + 1) 2048 = true) (h2 : Nat.ble (8 + (n + 11) + lo) 94400 = true) (h3 : cells + mc ≤ R.cells) (h4 : slots + ms ≤ R.slots) : fr + 1 ≤ R.frames ∧ 8 + (n + 11) + lo ≤ R.locals ∧ cells + mc ≤ R.cells ∧ slots + ms ≤ R.slots :=
  ⟨by rw [hf]; exact Nat.le_of_ble_eq_true h1, by rw [hl]; exact Nat.le_of_ble_eq_true h2, h3, h4⟩
/-- what behind two calls is held against each other -/
theorem lw_tail {off : Int} {k bv : Int32} {cells0 slots0 : Nat} (K : lw_C p l R s m args c D Y ty A L b xs) (w : JW D Y ty ad A s.heap M H locs) (hR : RLL M) (h0 : M 140 0 = k) (hv : k = 0 → M 174 0 = bv) (hl : lv_has ls 9 ((7, .int bv) :: (6, .int k) :: lw_ls ad b i)) (hc : cells ≤ cells0 + 4) (hs : slots ≤ slots0 + 24) (hcR : cells ≤ R.cells) (hsR : slots ≤ R.slots)
    (d0 : decode cL_law pc = .ok (.aload_n 2, 1)) (d1 : decode cL_law (pc + 1) = .ok (.invokevirtual 141, 3)) (d4 : decode cL_law (pc + 4) = .ok (.iload 6, 2)) (d6 : decode cL_law (pc + 6) = .ok (.if_icmp .eq 5, 3)) (d11 : decode cL_law (pc + 11) = .ok (.iload 6, 2)) (d13 : decode cL_law (pc + 13) = .ok (.ifCond .ne 15, 3)) (d16 : decode cL_law (pc + 16) = .ok (.aload_n 3, 1)) (d17 : decode cL_law (pc + 17) = .ok (.iconst 0, 1)) (d18 : decode cL_law (pc + 18) = .ok (.laload, 1)) (d19 : decode cL_law (pc + 19) = .ok (.iload 7, 2)) (d21 : decode cL_law (pc + 21) = .ok (.i2l, 1)) (d22 : decode cL_law (pc + 22) = .ok (.lcmp, 1)) (d23 : decode cL_law (pc + 23) = .ok (.ifCond .eq 5, 3)) (d28 : decode cL_law (pc + 28) = .ok (.goto off, 3)) (hoff : ((pc + 28 : Nat) : Int) + off = ((2340 : Nat) : Int))
    (kk : lw_K p l e R s m args below meth c cells0 slots0 Q D Y ty ad A b i) : W p l e R s m args below meth c H locs cells slots Q (F0 m pc ls []) := by
  obtain ⟨jc, jx, hA, -, hYH, ⟨-, k10, k104, -⟩, hl9, hRf, hRl⟩ := K
  have hx := jc.1
  have hb := jc.2.1
  have hlb : lv_has ls 9 (lw_ls ad b i) := lv_sub hl [2, 3, 4, 5, 6, 7] rfl
  have fin : W p l e R s m args below meth c H locs cells slots Q (F0 m (pc + 28) ls []) := lv_goto (tgt := 2340) hx hb d28 hoff (kk H locs ls cells slots M w hR hlb hc hs)
  refine lv_aload_n hx hb d0 rfl (lv_at hl 4 rfl) ?_
  refine jc_vi (o := 140) (ci := 10) [] [] jc w hA k10 (by decide) rfl (c_X10_thrown jc.2.2.2.2.2.2 k10 rfl) sd_W_141 rfl hl.1 (lw_hR hRf hRl rfl rfl hcR hsR) (Nat.le_of_ble_eq_true rfl) d1 (fun H1 L1 w1 => ?_)
  have fin : W p l e R s m args below meth c H1 L1 cells slots Q (F0 m (pc + 28) ls []) := lv_goto (tgt := 2340) hx hb d28 hoff (kk H1 L1 ls cells slots M w1 hR hlb hc hs)
  refine lv_iload hx hb d4 (lv_at hl 1 rfl) ?_
  refine lv_icmp_eq (tgt := pc + 11) hx hb d6 (by omega) (fun _ => ?_) (fun c1 => absurd h0 c1)
  refine lv_iload hx hb d11 (lv_at hl 1 rfl) ?_
  refine lv_if_ne (tgt := pc + 28) hx hb d13 (by omega) (fun _ => fin) (fun c1 => ?_)
  refine lv_aload_n hx hb d16 rfl (lv_at hl 5 rfl) ?_
  refine lv_iconst (v := 0) hx hb d17 (by decide) ?_
  refine jr_lald jc w1 k104 (j_g_in (h_out hYH.2.2.2.2.2.2.2.2.2.2.1)) d18 ?_
  refine lv_iload hx hb d19 (lv_at hl 0 rfl) ?_
  refine lv_i2l (v := bv.toInt64) hx hb d21 rfl ?_
  refine W.lcmp hx hb d22 ?_
  refine lv_if_eq (tgt := pc + 28) hx hb d23 (by omega) (fun _ => fin) (fun c2 => absurd ((lg_cmp_eq _ _).mpr ?_) c2)
  show (M 174 0).toInt64 = bv.toInt64
  rw [hv c1]
end LWR

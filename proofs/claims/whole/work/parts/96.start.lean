/-! THE CLAIM OUT OF ONE WALK OF THE LAW'S BODY. Your part is whole_start (and what it stands on); all else here is the same for every law, but numbers. -/
def R_law : String := "MergeWorkbenchLaw"
def lw_P (b : Addr) (xs : List Int32) (args : Array Value) (s : State) : Prop := args = #[.ref b] ∧ s.IntsAt b xs ∧ xs.length ≤ 2048 ∧ (Jvm.Cond.and given_1 narrow_1).before args s = true
/-- what a walk over the start with the record d0 says of its end, said of the start itself -/
theorem lw_closed {s t : State} {o : Outcome} {d0 : Drawn} {L : List Loc} {k n : Nat} (hd0 : s.drawn.sameBut d0 lw_cs) (hv : ∃ v, o = .returned v) (hW : (s.setDrawn d0).WarmedH t.vm) (hs : (s.setDrawn d0).sameButNew ({ t with vm := s.vm } : State) L k n) : State.butDraws s t lw_cs (fun t1 => Framed s o t1 L k n) := by
  have h2 : t.drawn = d0 := congrArg State.drawn hs.1
  refine ⟨⟨hv, hW, State.sameButNew.setDrawn hs s.drawn⟩, ?_, by decide⟩
  rw [h2]
  exact hd0
def lw_Q (_ : Array Value) (s : State) (o : Outcome) (t : State) : Prop := o = .returned (some (.int 1)) ∧ State.butDraws s t lw_cs (fun t1 => Framed s o t1 [] 603072 7186538)
def lw_Z (below : List Frame) (a : Array Value) (s : State) : State → Prop := fun t => ∃ o, t.status = .running ∧ Ended t below o ∧ lw_Q a s o t
/-- the law's own end, with 1 on the stack, nothing written that was there before, its room as the claim has it; d0: the record of draws at this point (at the entry s.drawn: begin with 'refine W.base ?_' and 'have hd0 := Drawn.sameBut.refl s.drawn lw_cs') -/
theorem lw_ret {p : Program} {l : Launch} {e : Env} {s : State} {m : MethodId} {below : List Frame} {meth : Method} {c : Code} {b : Nat} {d0 : Drawn} (hd0 : s.drawn.sameBut d0 lw_cs) (hx : p.tables.exec = Jvm.exec) (hb : c.code = code) (hr : meth.sig.returnType = ret) (hlocks : meth.locks = false) {pc : Nat} {H : Heap} {ls : Array Slot} (hdg : decode code pc = .ok (.ireturn, 1)) : W p l e room_1 (s.setDrawn d0) m #[Value.ref b] below meth c H [] 603072 7186538 (lw_Z below #[Value.ref b] s) (F0 m pc ls [.int 1]) := by
  intro T hT X
  obtain ⟨fs, hret, hrun, hended, hW, hframe⟩ := X.leave (v := some (.int 1)) (hlocks := hlocks) (fun h => by rw [hr] at h; cases h)
  have hmeth' : T.vm.method? m = some meth := X.method'
  refine ⟨T.setFrames fs, ?_, .returned (some (.int 1)), hrun, hended, rfl, lw_closed hd0 ⟨_, rfl⟩ hW hframe⟩
  jvm_step X.here [X.here.top, hx, hb, hdg, hmeth', hr, ret, narrow_b1]
  (try refine ⟨rfl, ?_⟩); (try refine ⟨rfl, ?_⟩)
  first | (intro acts; rw [hret _ acts rfl rfl rfl]) | rw [hret _ _ rfl rfl rfl]
  exact Steps.refl _
/-- what holds at the law's entry: the machine, the code, the tables' words (any of lw_tbl by 'hts w (by decide +kernel)'), the script of L ints xs at the cell b, what the Statement gives of the start (any of its parts by flat_of_before) -/
def lw_At (p : Program) (s : State) (m : MethodId) (meth : Method) (c : Code) (b L : Nat) (xs : Nat → Int32) : Prop :=
  p.tables.exec = Jvm.exec ∧ c.code = code ∧ meth.sig.returnType = ret ∧ c.maxLocals = 9 ∧ s.vm.findClass R_law = some m.cls ∧ (∀ w ∈ lw_tbl, w.before #[Value.ref b] s = true) ∧ va_X b L xs s s.heap ∧ b < s.heap.size ∧ meth.locks = false ∧ (Jvm.Cond.and given_1 narrow_1).before #[Value.ref b] s = true
/-! ===== what the start gives ===== -/
theorem lt_1 {i : Nat} {w : Cond} (h0 : tables_1_1[i]? = some w) : w ∈ lw_tbl := by
  have h := List.mem_of_getElem? h0
  exact List.mem_append_right _ (by unfold tables_1; exact (List.mem_append_left _ h))
theorem lt_2 {i : Nat} {w : Cond} (h0 : tables_1_2[i]? = some w) : w ∈ lw_tbl := by
  have h := List.mem_of_getElem? h0
  exact List.mem_append_right _ (by unfold tables_1; exact (List.mem_append_right _ (List.mem_append_left _ h)))
theorem lt_3 {i : Nat} {w : Cond} (h0 : tables_1_3[i]? = some w) : w ∈ lw_tbl := by
  have h := List.mem_of_getElem? h0
  exact List.mem_append_right _ (by unfold tables_1; exact (List.mem_append_right _ (List.mem_append_right _ (List.mem_append_left _ h))))
theorem lt_4 {i : Nat} {w : Cond} (h0 : tables_1_4[i]? = some w) : w ∈ lw_tbl := by
  have h := List.mem_of_getElem? h0
  exact List.mem_append_right _ (by unfold tables_1; exact (List.mem_append_right _ (List.mem_append_right _ (List.mem_append_right _ (List.mem_append_left _ h)))))
theorem lt_5 {i : Nat} {w : Cond} (h0 : tables_1_5[i]? = some w) : w ∈ lw_tbl := by
  have h := List.mem_of_getElem? h0
  exact List.mem_append_right _ (by unfold tables_1; exact (List.mem_append_right _ (List.mem_append_right _ (List.mem_append_right _ (List.mem_append_right _ (List.mem_append_left _ h))))))
theorem lt_6 {i : Nat} {w : Cond} (h0 : tables_1_6[i]? = some w) : w ∈ lw_tbl := by
  have h := List.mem_of_getElem? h0
  exact List.mem_append_right _ (by unfold tables_1; exact (List.mem_append_right _ (List.mem_append_right _ (List.mem_append_right _ (List.mem_append_right _ (List.mem_append_right _ (List.mem_append_left _ h)))))))
theorem lt_7 {i : Nat} {w : Cond} (h0 : tables_1_7[i]? = some w) : w ∈ lw_tbl := by
  have h := List.mem_of_getElem? h0
  exact List.mem_append_right _ (by unfold tables_1; exact (List.mem_append_right _ (List.mem_append_right _ (List.mem_append_right _ (List.mem_append_right _ (List.mem_append_right _ (List.mem_append_right _ (List.mem_append_left _ h))))))))
theorem lt_8 {i : Nat} {w : Cond} (h0 : tables_1_8[i]? = some w) : w ∈ lw_tbl := by
  have h := List.mem_of_getElem? h0
  exact List.mem_append_right _ (by unfold tables_1; exact (List.mem_append_right _ (List.mem_append_right _ (List.mem_append_right _ (List.mem_append_right _ (List.mem_append_right _ (List.mem_append_right _ (List.mem_append_right _ (h)))))))))
def jx_need : List Cond := [.isRef (.static Bundle.tN "UNASSIGNED_STACK" Bundle.steD), .isRef (.static Bundle.tN "SUPPRESSED_SENTINEL" Bundle.listD), .exactly (.string RX9 108) "java/lang/String", .exactly (.string RX9 149) "java/lang/String", .exactly (.string RX9 166) "java/lang/String", .exactly (.string RX9 170) "java/lang/String", .exactly (.string RX9 212) "java/lang/String", .exactly (.string RX9 220) "java/lang/String", .exactly (.string RX9 223) "java/lang/String", .exactly (.string RX9 245) "java/lang/String", .exactly (.string RX9 247) "java/lang/String", .exactly (.string RX9 259) "java/lang/String", .exactly (.string RX9 261) "java/lang/String", .exactly (.string RX9 265) "java/lang/String", .exactly (.string RX9 268) "java/lang/String", .exactly (.string RX9 277) "java/lang/String", .exactly (.string RX9 292) "java/lang/String", .exactly (.string RX9 294) "java/lang/String", .exactly (.string RX9 301) "java/lang/String", .exactly (.string RX9 314) "java/lang/String", .exactly (.string RX9 319) "java/lang/String", .exactly (.string RX9 324) "java/lang/String", .exactly (.string RX9 326) "java/lang/String", .exactly (.string RX9 331) "java/lang/String", .exactly (.string RX9 334) "java/lang/String", .exactly (.string RX9 337) "java/lang/String", .not (.castable (jxn 0) (jxn 1)), .not (.castable (jxn 0) (jxn 2)), .not (.castable (jxn 0) (jxn 3)), .not (.castable (jxn 0) (jxn 4)), .not (.castable (jxn 0) (jxn 5)), .not (.castable (jxn 1) (jxn 0)), .not (.castable (jxn 1) (jxn 2)), .not (.castable (jxn 1) (jxn 3)), .not (.castable (jxn 1) (jxn 4)), .not (.castable (jxn 1) (jxn 5)), .not (.castable (jxn 2) (jxn 0)), .not (.castable (jxn 2) (jxn 1)), .not (.castable (jxn 2) (jxn 3)), .not (.castable (jxn 2) (jxn 4)), .not (.castable (jxn 2) (jxn 5)), .not (.castable (jxn 3) (jxn 0)), .not (.castable (jxn 3) (jxn 1)), .not (.castable (jxn 3) (jxn 2)), .not (.castable (jxn 3) (jxn 4)), .not (.castable (jxn 3) (jxn 5)), .not (.castable (jxn 4) (jxn 0)), .not (.castable (jxn 4) (jxn 1)), .not (.castable (jxn 4) (jxn 2)), .not (.castable (jxn 4) (jxn 3)), .not (.castable (jxn 4) (jxn 5)), .not (.castable (jxn 5) (jxn 0)), .not (.castable (jxn 5) (jxn 1)), .not (.castable (jxn 5) (jxn 2)), .not (.castable (jxn 5) (jxn 3)), .not (.castable (jxn 5) (jxn 4))]
set_option maxRecDepth 100000 in
theorem jx_need_ok : ∀ w ∈ jx_need, w ∈ flatC (Jvm.Cond.and given_1 narrow_1) := by decide +kernel
theorem jx_str {own tx : String} {k : Nat} {B : Array Value} {U : State} (h1 : (Cond.stringRef own k tx).before B U = true) (h2 : (Cond.exactly (.string own k) "java/lang/String").before B U = true) : ∃ sa, vk_R own k tx sa U := by
  obtain ⟨a, c, cell, k, h, -⟩ := Cond.exactly_spec h2
  exact ⟨a, vk_R.of h1 h⟩
theorem jx_start {s : State} {b : Nat} {A : Nat → Prop} (hgv : (Jvm.Cond.and given_1 narrow_1).before #[Value.ref b] s = true) (hts : ∀ w ∈ lw_tbl, w.before #[Value.ref b] s = true) (hA : ∀ a : Nat, a < s.heap.size → ¬ A a) : JX A s s.heap := by
  have hs := flat_of_before _ hgv
  have hn : ∀ w ∈ jx_need, w.before #[Value.ref b] s = true := fun w h => hs w (jx_need_ok w h)
  refine ⟨vx_Zqof (hts _ (lt_2 (i := 161) rfl)) (hts _ (lt_1 (i := 12) rfl)) (hn _ (List.mem_of_getElem? (i := 0) rfl)) hA, vx_Zqof (hts _ (lt_2 (i := 163) rfl)) (hts _ (lt_1 (i := 12) rfl)) (hn _ (List.mem_of_getElem? (i := 1) rfl)) hA, ⟨fun k hk => ?_, ?_⟩, ?_, fun k hk j hj hkj => ?_⟩
  · match k, hk with
    | 0, _ => exact va_Nw.of rfl (hts _ (lt_2 (i := 136) rfl))
    | 1, _ => exact va_Nw.of rfl (hts _ (lt_2 (i := 217) rfl))
    | 2, _ => exact va_Nw.of rfl (hts _ (lt_3 (i := 35) rfl))
    | 3, _ => exact va_Nw.of rfl (hts _ (lt_4 (i := 114) rfl))
    | 4, _ => exact va_Nw.of rfl (hts _ (lt_4 (i := 143) rfl))
    | 5, _ => exact va_Nw.of rfl (hts _ (lt_5 (i := 139) rfl))
    | k + 6, hk => exact absurd hk (by omega)
  · exact List.forall_mem_cons.mpr ⟨va_Nw.of rfl (hts _ (lt_2 (i := 138) rfl)), List.forall_mem_cons.mpr ⟨va_Nw.of rfl (hts _ (lt_2 (i := 140) rfl)), List.forall_mem_cons.mpr ⟨va_Nw.of rfl (hts _ (lt_2 (i := 142) rfl)), fun _ h => absurd h List.not_mem_nil⟩⟩⟩
  · exact List.forall_mem_cons.mpr ⟨jx_str (hts _ (lt_3 (i := 42) rfl)) (hn _ (List.mem_of_getElem? (i := 2) rfl)), List.forall_mem_cons.mpr ⟨jx_str (hts _ (lt_3 (i := 181) rfl)) (hn _ (List.mem_of_getElem? (i := 3) rfl)), List.forall_mem_cons.mpr ⟨jx_str (hts _ (lt_3 (i := 223) rfl)) (hn _ (List.mem_of_getElem? (i := 4) rfl)), List.forall_mem_cons.mpr ⟨jx_str (hts _ (lt_3 (i := 231) rfl)) (hn _ (List.mem_of_getElem? (i := 5) rfl)), List.forall_mem_cons.mpr ⟨jx_str (hts _ (lt_4 (i := 121) rfl)) (hn _ (List.mem_of_getElem? (i := 6) rfl)), List.forall_mem_cons.mpr ⟨jx_str (hts _ (lt_4 (i := 154) rfl)) (hn _ (List.mem_of_getElem? (i := 7) rfl)), List.forall_mem_cons.mpr ⟨jx_str (hts _ (lt_4 (i := 163) rfl)) (hn _ (List.mem_of_getElem? (i := 8) rfl)), List.forall_mem_cons.mpr ⟨jx_str (hts _ (lt_5 (i := 89) rfl)) (hn _ (List.mem_of_getElem? (i := 9) rfl)), List.forall_mem_cons.mpr ⟨jx_str (hts _ (lt_5 (i := 90) rfl)) (hn _ (List.mem_of_getElem? (i := 10) rfl)), List.forall_mem_cons.mpr ⟨jx_str (hts _ (lt_4 (i := 97) rfl)) (hn _ (List.mem_of_getElem? (i := 11) rfl)), List.forall_mem_cons.mpr ⟨jx_str (hts _ (lt_5 (i := 136) rfl)) (hn _ (List.mem_of_getElem? (i := 12) rfl)), List.forall_mem_cons.mpr ⟨jx_str (hts _ (lt_5 (i := 146) rfl)) (hn _ (List.mem_of_getElem? (i := 13) rfl)), List.forall_mem_cons.mpr ⟨jx_str (hts _ (lt_5 (i := 160) rfl)) (hn _ (List.mem_of_getElem? (i := 14) rfl)), List.forall_mem_cons.mpr ⟨jx_str (hts _ (lt_5 (i := 211) rfl)) (hn _ (List.mem_of_getElem? (i := 15) rfl)), List.forall_mem_cons.mpr ⟨jx_str (hts _ (lt_6 (i := 23) rfl)) (hn _ (List.mem_of_getElem? (i := 16) rfl)), List.forall_mem_cons.mpr ⟨jx_str (hts _ (lt_4 (i := 98) rfl)) (hn _ (List.mem_of_getElem? (i := 17) rfl)), List.forall_mem_cons.mpr ⟨jx_str (hts _ (lt_6 (i := 35) rfl)) (hn _ (List.mem_of_getElem? (i := 18) rfl)), List.forall_mem_cons.mpr ⟨jx_str (hts _ (lt_6 (i := 48) rfl)) (hn _ (List.mem_of_getElem? (i := 19) rfl)), List.forall_mem_cons.mpr ⟨jx_str (hts _ (lt_2 (i := 179) rfl)) (hn _ (List.mem_of_getElem? (i := 20) rfl)), List.forall_mem_cons.mpr ⟨jx_str (hts _ (lt_2 (i := 210) rfl)) (hn _ (List.mem_of_getElem? (i := 21) rfl)), List.forall_mem_cons.mpr ⟨jx_str (hts _ (lt_2 (i := 224) rfl)) (hn _ (List.mem_of_getElem? (i := 22) rfl)), List.forall_mem_cons.mpr ⟨jx_str (hts _ (lt_4 (i := 47) rfl)) (hn _ (List.mem_of_getElem? (i := 23) rfl)), List.forall_mem_cons.mpr ⟨jx_str (hts _ (lt_5 (i := 65) rfl)) (hn _ (List.mem_of_getElem? (i := 24) rfl)), List.forall_mem_cons.mpr ⟨jx_str (hts _ (lt_5 (i := 199) rfl)) (hn _ (List.mem_of_getElem? (i := 25) rfl)), fun _ h => absurd h List.not_mem_nil⟩⟩⟩⟩⟩⟩⟩⟩⟩⟩⟩⟩⟩⟩⟩⟩⟩⟩⟩⟩⟩⟩⟩⟩
  · match k, j, hk, hj, hkj with
    | 0, 0, _, _, h => exact absurd rfl h
    | 0, 1, _, _, _ => exact va_Nc.of (hn _ (List.mem_of_getElem? (i := 26) rfl))
    | 0, 2, _, _, _ => exact va_Nc.of (hn _ (List.mem_of_getElem? (i := 27) rfl))
    | 0, 3, _, _, _ => exact va_Nc.of (hn _ (List.mem_of_getElem? (i := 28) rfl))
    | 0, 4, _, _, _ => exact va_Nc.of (hn _ (List.mem_of_getElem? (i := 29) rfl))
    | 0, 5, _, _, _ => exact va_Nc.of (hn _ (List.mem_of_getElem? (i := 30) rfl))
    | 1, 0, _, _, _ => exact va_Nc.of (hn _ (List.mem_of_getElem? (i := 31) rfl))
    | 1, 1, _, _, h => exact absurd rfl h
    | 1, 2, _, _, _ => exact va_Nc.of (hn _ (List.mem_of_getElem? (i := 32) rfl))
    | 1, 3, _, _, _ => exact va_Nc.of (hn _ (List.mem_of_getElem? (i := 33) rfl))
    | 1, 4, _, _, _ => exact va_Nc.of (hn _ (List.mem_of_getElem? (i := 34) rfl))
    | 1, 5, _, _, _ => exact va_Nc.of (hn _ (List.mem_of_getElem? (i := 35) rfl))
    | 2, 0, _, _, _ => exact va_Nc.of (hn _ (List.mem_of_getElem? (i := 36) rfl))
    | 2, 1, _, _, _ => exact va_Nc.of (hn _ (List.mem_of_getElem? (i := 37) rfl))
    | 2, 2, _, _, h => exact absurd rfl h
    | 2, 3, _, _, _ => exact va_Nc.of (hn _ (List.mem_of_getElem? (i := 38) rfl))
    | 2, 4, _, _, _ => exact va_Nc.of (hn _ (List.mem_of_getElem? (i := 39) rfl))
    | 2, 5, _, _, _ => exact va_Nc.of (hn _ (List.mem_of_getElem? (i := 40) rfl))
    | 3, 0, _, _, _ => exact va_Nc.of (hn _ (List.mem_of_getElem? (i := 41) rfl))
    | 3, 1, _, _, _ => exact va_Nc.of (hn _ (List.mem_of_getElem? (i := 42) rfl))
    | 3, 2, _, _, _ => exact va_Nc.of (hn _ (List.mem_of_getElem? (i := 43) rfl))
    | 3, 3, _, _, h => exact absurd rfl h
    | 3, 4, _, _, _ => exact va_Nc.of (hn _ (List.mem_of_getElem? (i := 44) rfl))
    | 3, 5, _, _, _ => exact va_Nc.of (hn _ (List.mem_of_getElem? (i := 45) rfl))
    | 4, 0, _, _, _ => exact va_Nc.of (hn _ (List.mem_of_getElem? (i := 46) rfl))
    | 4, 1, _, _, _ => exact va_Nc.of (hn _ (List.mem_of_getElem? (i := 47) rfl))
    | 4, 2, _, _, _ => exact va_Nc.of (hn _ (List.mem_of_getElem? (i := 48) rfl))
    | 4, 3, _, _, _ => exact va_Nc.of (hn _ (List.mem_of_getElem? (i := 49) rfl))
    | 4, 4, _, _, h => exact absurd rfl h
    | 4, 5, _, _, _ => exact va_Nc.of (hn _ (List.mem_of_getElem? (i := 50) rfl))
    | 5, 0, _, _, _ => exact va_Nc.of (hn _ (List.mem_of_getElem? (i := 51) rfl))
    | 5, 1, _, _, _ => exact va_Nc.of (hn _ (List.mem_of_getElem? (i := 52) rfl))
    | 5, 2, _, _, _ => exact va_Nc.of (hn _ (List.mem_of_getElem? (i := 53) rfl))
    | 5, 3, _, _, _ => exact va_Nc.of (hn _ (List.mem_of_getElem? (i := 54) rfl))
    | 5, 4, _, _, _ => exact va_Nc.of (hn _ (List.mem_of_getElem? (i := 55) rfl))
    | 5, 5, _, _, h => exact absurd rfl h
    | k + 6, _, hk, _, _ => exact absurd hk (by omega)
    | _, j + 6, _, hj, _ => exact absurd hj (by omega)
theorem ka_prim {s : State} {B : Array Value} {t : FieldType} (ht : ∀ C, t ≠ .object C) (h : (Cond.arrayClass t).before B s = true) : ∃ c : ClassId, ArrOfT s c t ∧ va_RA s c t := by
  obtain ⟨c, k, comp, h1, h2, h3⟩ := Cond.arrayClass_spec h
  refine ⟨c, fun n z => ⟨fun k h => (by cases h), k, h2, comp, h3⟩, ?_⟩
  cases t with
  | object C => exact absurd rfl (ht C)
  | _ => exact h1
theorem ka_obj {s : State} {B : Array Value} {C : String} (h : (Cond.arrayOver (.object C)).before B s = true) : ∃ c : ClassId, ArrOfT s c (.object C) ∧ va_RA s c (.object C) := by
  obtain ⟨comp, c, k, h1, -, h2, h3, h4⟩ := Cond.arrayOver_spec h
  exact ⟨c, fun n z => ⟨fun k h => (by cases h), k, h2, comp, h3⟩, k, comp, h2, h3, h1, h4⟩
theorem ka_start {s : State} {B : Array Value} (hts : ∀ w ∈ lw_tbl, w.before B s = true) (htj : ∀ w ∈ jwd, w.before B s = true) : ∃ (D : va_G) (ty : Nat → ClassId), va_K D jcl (j_tys ty) s := by
  obtain ⟨c0, i0, k0⟩ := u_known (C := RX0) (T := TX0) (N := 7) (n := 7) htj jin_0 (htj _ wd_1_113)
  obtain ⟨c1, i1, k1⟩ := u_known (C := RX1) (T := TX1) (N := 9) (n := 9) htj jin_1 (htj _ wd_1_167)
  obtain ⟨c2, i2, k2⟩ := u_known (C := RX2) (T := TX2) (N := 4) (n := 4) htj jin_2 (htj _ wd_1_61)
  obtain ⟨c3, i3, k3⟩ := u_known (C := RX3) (T := TX3) (N := 2) (n := 2) htj jin_3 (htj _ wd_1_96)
  obtain ⟨c4, i4, k4⟩ := u_known (C := RX4) (T := TX4) (N := 2) (n := 2) htj jin_4 (htj _ wd_1_39)
  obtain ⟨c5, i5, k5⟩ := u_known (C := RX5) (T := TX5) (N := 9) (n := 9) htj jin_5 (htj _ wd_1_207)
  obtain ⟨c6, i6, k6⟩ := u_known (C := RX6) (T := TX6) (N := 9) (n := 9) htj jin_6 (htj _ wd_2_7)
  obtain ⟨c7, i7, k7⟩ := u_known (C := RX7) (T := TX7) (N := 2) (n := 2) htj jin_7 (htj _ wd_1_33)
  obtain ⟨c8, i8, k8⟩ := u_known (C := RX8) (T := TX8) (N := 3) (n := 3) htj jin_8 (htj _ wd_1_121)
  obtain ⟨c9, i9, k9⟩ := u_known (C := RX9) (T := TX9) (N := 13) (n := 13) htj jin_9 (htj _ wd_1_25)
  obtain ⟨c10, i10, k10⟩ := u_known (C := RX10) (T := TX10) (N := 61) (n := 61) htj jin_10 (htj _ wd_6_54)
  obtain ⟨t0, a0⟩ := ka_prim (t := .int) (by intro C h; cases h) (htj _ wd_1_51)
  obtain ⟨t1, a1⟩ := ka_prim (t := .boolean) (by intro C h; cases h) (htj _ wd_7_4)
  obtain ⟨t2, a2⟩ := ka_prim (t := .char) (by intro C h; cases h) (htj _ wd_7_3)
  obtain ⟨t3, a3⟩ := ka_obj (C := RX4) (hts _ (lt_1 (i := 52) rfl))
  obtain ⟨t4, a4⟩ := ka_prim (t := .long) (by intro C h; cases h) (htj _ wd_8_58)
  obtain ⟨t5, a5⟩ := ka_prim (t := .double) (by intro C h; cases h) (htj _ wd_8_59)
  refine ⟨(fun k => ([c0, c1, c2, c3, c4, c5, c6, c7, c8, c9, c10] : List ClassId).getD k c0, fun k => ([i0, i1, i2, i3, i4, i5, i6, i7, i8, i9, i10] : List (Nat → Nat)).getD k i0), fun k => ([t0, t1, t2, t3, t4, t5] : List ClassId).getD k t0, fun k q hq => ?_, fun k q hq => ?_⟩
  · match k, hq with
    | 0, hq => cases hq; exact k0
    | 1, hq => cases hq; exact k1
    | 2, hq => cases hq; exact k2
    | 3, hq => cases hq; exact k3
    | 4, hq => cases hq; exact k4
    | 5, hq => cases hq; exact k5
    | 6, hq => cases hq; exact k6
    | 7, hq => cases hq; exact k7
    | 8, hq => cases hq; exact k8
    | 9, hq => cases hq; exact k9
    | 10, hq => cases hq; exact k10
    | k + 11, hq => simp [jcl] at hq
  · match k, hq with
    | 0, hq => cases hq; exact a0
    | 1, hq => cases hq; exact a1
    | 2, hq => cases hq; exact a2
    | 3, hq => cases hq; exact a3
    | 4, hq => cases hq; exact a4
    | 5, hq => cases hq; exact a5
    | k + 6, hq => simp [j_tys] at hq
theorem j_X_start {s : State} {B : Array Value} (hts : ∀ w ∈ lw_tbl, w.before B s = true) : j_X s := ⟨va_AO.of (hts _ (lt_1 (i := 52) rfl)), va_Nw.of rfl (hts _ (lt_1 (i := 97) rfl)), va_Nw.of rfl (hts _ (lt_1 (i := 168) rfl)), va_Nw.of rfl (hts _ (lt_1 (i := 208) rfl)), va_Nw.of rfl (hts _ (lt_2 (i := 8) rfl))⟩

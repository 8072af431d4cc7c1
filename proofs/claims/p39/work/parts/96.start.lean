/-! THE CLAIM OUT OF ONE WALK OF THE LAW'S BODY. Your part is whole_start (and what it stands on); all else here is the same for every law, but numbers. -/
def R_law : String := "MergeWorkbenchLaw"
def lw_P (b : Addr) (xs : List Int32) (args : Array Value) (s : State) : Prop := args = #[.ref b] ∧ s.IntsAt b xs ∧ xs.length ≤ 260 ∧ (Jvm.Cond.and given_1 narrow_1).before args s = true
def lw_Q (_ : Array Value) (s : State) (o : Outcome) (t : State) : Prop := o = .returned (some (.int 1)) ∧ Framed s o t [] 600130 7301080
def lw_Z (below : List Frame) (a : Array Value) (s : State) : State → Prop := fun t => ∃ o, t.status = .running ∧ Ended t below o ∧ lw_Q a s o t
/-- the law's own end, with 1 on the stack, nothing written that was there before, its room as the claim has it -/
theorem lw_ret {p : Program} {l : Launch} {e : Env} {s : State} {m : MethodId} {below : List Frame} {meth : Method} {c : Code} {b : Nat} (hx : p.tables.exec = Jvm.exec) (hb : c.code = code) (hr : meth.sig.returnType = ret) (hlocks : meth.locks = false) {pc : Nat} {H : Heap} {ls : Array Slot} (hdg : decode code pc = .ok (.ireturn, 1)) : W p l e room_1 s m #[Value.ref b] below meth c H [] 600130 7301080 (lw_Z below #[Value.ref b] s) (F0 m pc ls [.int 1]) := by
  intro T hT X
  obtain ⟨fs, hret, hrun, hended, hW, hframe⟩ := X.leave (v := some (.int 1)) (hlocks := hlocks) (fun h => by rw [hr] at h; cases h)
  have hmeth' : T.vm.method? m = some meth := X.method'
  refine ⟨T.setFrames fs, ?_, .returned (some (.int 1)), hrun, hended, rfl, ⟨_, rfl⟩, hW, hframe⟩
  jvm_step X.here [X.here.top, hx, hb, hdg, hmeth', hr, ret, narrow_b1]
  (try refine ⟨rfl, ?_⟩); (try refine ⟨rfl, ?_⟩)
  first | (intro acts; rw [hret _ acts rfl rfl rfl]) | rw [hret _ _ rfl rfl rfl]
  exact Steps.refl _
/-- what holds at the law's entry: the machine, the code, the tables' words (any of lw_tbl by 'hts w (by decide +kernel)'), the script of L ints xs at the cell b, what the Statement gives of the start (any of its parts by flat_of_before) -/
def lw_At (p : Program) (s : State) (m : MethodId) (meth : Method) (c : Code) (b L : Nat) (xs : Nat → Int32) : Prop :=
  p.tables.exec = Jvm.exec ∧ c.code = code ∧ meth.sig.returnType = ret ∧ c.maxLocals = 18 ∧ s.vm.findClass R_law = some m.cls ∧ (∀ w ∈ lw_tbl, w.before #[Value.ref b] s = true) ∧ va_X b L xs s s.heap ∧ b < s.heap.size ∧ meth.locks = false ∧ (Jvm.Cond.and given_1 narrow_1).before #[Value.ref b] s = true
/-! ===== what the start gives ===== -/
theorem lt_1 {i : Nat} {w : Cond} (h0 : tables_1_1[i]? = some w) : w ∈ lw_tbl := by
  have h := List.mem_of_getElem? h0
  exact List.mem_append_right _ (by unfold tables_1; exact (List.mem_append_left _ h))
theorem lt_2 {i : Nat} {w : Cond} (h0 : tables_1_2[i]? = some w) : w ∈ lw_tbl := by
  have h := List.mem_of_getElem? h0
  exact List.mem_append_right _ (by unfold tables_1; exact (List.mem_append_right _ (List.mem_append_left _ h)))
theorem lt_3 {i : Nat} {w : Cond} (h0 : tables_1_3[i]? = some w) : w ∈ lw_tbl := by
  have h := List.mem_of_getElem? h0
  exact List.mem_append_right _ (by unfold tables_1; exact (List.mem_append_right _ (List.mem_append_right _ (List.mem_append_left _ h))))
theorem lt_4 {i : Nat} {w : Cond} (h0 : tables_1_4[i]? = some w) : w ∈ lw_tbl := by
  have h := List.mem_of_getElem? h0
  exact List.mem_append_right _ (by unfold tables_1; exact (List.mem_append_right _ (List.mem_append_right _ (List.mem_append_right _ (List.mem_append_left _ h)))))
theorem lt_5 {i : Nat} {w : Cond} (h0 : tables_1_5[i]? = some w) : w ∈ lw_tbl := by
  have h := List.mem_of_getElem? h0
  exact List.mem_append_right _ (by unfold tables_1; exact (List.mem_append_right _ (List.mem_append_right _ (List.mem_append_right _ (List.mem_append_right _ (h))))))
def jx_need : List Cond := [.isRef (.static Bundle.tN "UNASSIGNED_STACK" Bundle.steD), .isRef (.static Bundle.tN "SUPPRESSED_SENTINEL" Bundle.listD), .exactly (.string RX9 108) "java/lang/String", .exactly (.string RX9 149) "java/lang/String", .exactly (.string RX9 166) "java/lang/String", .exactly (.string RX9 170) "java/lang/String", .exactly (.string RX9 223) "java/lang/String", .exactly (.string RX9 259) "java/lang/String", .exactly (.string RX9 268) "java/lang/String", .exactly (.string RX9 277) "java/lang/String", .exactly (.string RX9 292) "java/lang/String", .exactly (.string RX9 294) "java/lang/String", .exactly (.string RX9 301) "java/lang/String", .exactly (.string RX9 314) "java/lang/String", .exactly (.string RX9 319) "java/lang/String", .exactly (.string RX9 324) "java/lang/String", .exactly (.string RX9 326) "java/lang/String", .exactly (.string RX9 331) "java/lang/String", .exactly (.string RX9 334) "java/lang/String", .exactly (.string RX9 337) "java/lang/String", .not (.castable (jxn 0) (jxn 4)), .not (.castable (jxn 1) (jxn 4)), .not (.castable (jxn 2) (jxn 4)), .not (.castable (jxn 3) (jxn 4))]
set_option maxRecDepth 100000 in
theorem jx_need_ok : ∀ w ∈ jx_need, w ∈ flatC (Jvm.Cond.and given_1 narrow_1) := by decide +kernel
theorem jx_str {own tx : String} {k : Nat} {B : Array Value} {U : State} (h1 : (Cond.stringRef own k tx).before B U = true) (h2 : (Cond.exactly (.string own k) "java/lang/String").before B U = true) : ∃ sa, vk_R own k tx sa U := by
  obtain ⟨a, c, cell, k, h, -⟩ := Cond.exactly_spec h2
  exact ⟨a, vk_R.of h1 h⟩
theorem jx_start {s : State} {b : Nat} {A : Nat → Prop} (hgv : (Jvm.Cond.and given_1 narrow_1).before #[Value.ref b] s = true) (hts : ∀ w ∈ lw_tbl, w.before #[Value.ref b] s = true) (hA : ∀ a : Nat, a < s.heap.size → ¬ A a) : JX A s s.heap := by
  have hs := flat_of_before _ hgv
  have hn : ∀ w ∈ jx_need, w.before #[Value.ref b] s = true := fun w h => hs w (jx_need_ok w h)
  refine ⟨vx_Zqof (hts _ (lt_1 (i := 58) rfl)) (hts _ (lt_1 (i := 11) rfl)) (hn _ (List.mem_of_getElem? (i := 0) rfl)) hA, vx_Zqof (hts _ (lt_1 (i := 60) rfl)) (hts _ (lt_1 (i := 11) rfl)) (hn _ (List.mem_of_getElem? (i := 1) rfl)) hA, ⟨fun k hk => ?_, ?_⟩, ?_, fun k hk j hj hkj h4 => ?_⟩
  · match k, hk with
    | 0, _ => exact va_Nw.of rfl (hts _ (lt_1 (i := 31) rfl))
    | 1, _ => exact va_Nw.of rfl (hts _ (lt_1 (i := 118) rfl))
    | 2, _ => exact va_Nw.of rfl (hts _ (lt_1 (i := 134) rfl))
    | 3, _ => exact va_Nw.of rfl (hts _ (lt_3 (i := 112) rfl))
    | 4, _ => exact va_Nw.of rfl (hts _ (lt_5 (i := 31) rfl))
    | k + 5, hk => exact absurd hk (by omega)
  · exact List.forall_mem_cons.mpr ⟨va_Nw.of rfl (hts _ (lt_1 (i := 33) rfl)), List.forall_mem_cons.mpr ⟨va_Nw.of rfl (hts _ (lt_1 (i := 35) rfl)), List.forall_mem_cons.mpr ⟨va_Nw.of rfl (hts _ (lt_1 (i := 37) rfl)), fun _ h => absurd h List.not_mem_nil⟩⟩⟩
  · exact List.forall_mem_cons.mpr ⟨jx_str (hts _ (lt_1 (i := 141) rfl)) (hn _ (List.mem_of_getElem? (i := 2) rfl)), List.forall_mem_cons.mpr ⟨jx_str (hts _ (lt_5 (i := 59) rfl)) (hn _ (List.mem_of_getElem? (i := 3) rfl)), List.forall_mem_cons.mpr ⟨jx_str (hts _ (lt_2 (i := 7) rfl)) (hn _ (List.mem_of_getElem? (i := 4) rfl)), List.forall_mem_cons.mpr ⟨jx_str (hts _ (lt_4 (i := 219) rfl)) (hn _ (List.mem_of_getElem? (i := 5) rfl)), List.forall_mem_cons.mpr ⟨jx_str (hts _ (lt_2 (i := 135) rfl)) (hn _ (List.mem_of_getElem? (i := 6) rfl)), List.forall_mem_cons.mpr ⟨jx_str (hts _ (lt_2 (i := 184) rfl)) (hn _ (List.mem_of_getElem? (i := 7) rfl)), List.forall_mem_cons.mpr ⟨jx_str (hts _ (lt_3 (i := 54) rfl)) (hn _ (List.mem_of_getElem? (i := 8) rfl)), List.forall_mem_cons.mpr ⟨jx_str (hts _ (lt_4 (i := 232) rfl)) (hn _ (List.mem_of_getElem? (i := 9) rfl)), List.forall_mem_cons.mpr ⟨jx_str (hts _ (lt_3 (i := 119) rfl)) (hn _ (List.mem_of_getElem? (i := 10) rfl)), List.forall_mem_cons.mpr ⟨jx_str (hts _ (lt_2 (i := 185) rfl)) (hn _ (List.mem_of_getElem? (i := 11) rfl)), List.forall_mem_cons.mpr ⟨jx_str (hts _ (lt_3 (i := 134) rfl)) (hn _ (List.mem_of_getElem? (i := 12) rfl)), List.forall_mem_cons.mpr ⟨jx_str (hts _ (lt_3 (i := 159) rfl)) (hn _ (List.mem_of_getElem? (i := 13) rfl)), List.forall_mem_cons.mpr ⟨jx_str (hts _ (lt_1 (i := 74) rfl)) (hn _ (List.mem_of_getElem? (i := 14) rfl)), List.forall_mem_cons.mpr ⟨jx_str (hts _ (lt_1 (i := 108) rfl)) (hn _ (List.mem_of_getElem? (i := 15) rfl)), List.forall_mem_cons.mpr ⟨jx_str (hts _ (lt_1 (i := 125) rfl)) (hn _ (List.mem_of_getElem? (i := 16) rfl)), List.forall_mem_cons.mpr ⟨jx_str (hts _ (lt_2 (i := 121) rfl)) (hn _ (List.mem_of_getElem? (i := 17) rfl)), List.forall_mem_cons.mpr ⟨jx_str (hts _ (lt_3 (i := 45) rfl)) (hn _ (List.mem_of_getElem? (i := 18) rfl)), List.forall_mem_cons.mpr ⟨jx_str (hts _ (lt_3 (i := 97) rfl)) (hn _ (List.mem_of_getElem? (i := 19) rfl)), fun _ h => absurd h List.not_mem_nil⟩⟩⟩⟩⟩⟩⟩⟩⟩⟩⟩⟩⟩⟩⟩⟩⟩⟩
  · subst h4
    match k, hk, hkj with
    | 0, _, _ => exact va_Nc.of (hn _ (List.mem_of_getElem? (i := 20) rfl))
    | 1, _, _ => exact va_Nc.of (hn _ (List.mem_of_getElem? (i := 21) rfl))
    | 2, _, _ => exact va_Nc.of (hn _ (List.mem_of_getElem? (i := 22) rfl))
    | 3, _, _ => exact va_Nc.of (hn _ (List.mem_of_getElem? (i := 23) rfl))
    | 4, _, h => exact absurd rfl h
    | k + 5, hk, _ => exact absurd hk (by omega)
theorem ka_prim {s : State} {B : Array Value} {t : FieldType} (ht : ∀ C, t ≠ .object C) (h : (Cond.arrayClass t).before B s = true) : ∃ c : ClassId, ArrOfT s c t ∧ va_RA s c t := by
  obtain ⟨c, k, comp, h1, h2, h3⟩ := Cond.arrayClass_spec h
  refine ⟨c, fun n z => ⟨fun k h => (by cases h), k, h2, comp, h3⟩, ?_⟩
  cases t with
  | object C => exact absurd rfl (ht C)
  | _ => exact h1
theorem ka_obj {s : State} {B : Array Value} {C : String} (h : (Cond.arrayOver (.object C)).before B s = true) : ∃ c : ClassId, ArrOfT s c (.object C) ∧ va_RA s c (.object C) := by
  obtain ⟨comp, c, k, h1, -, h2, h3, h4⟩ := Cond.arrayOver_spec h
  exact ⟨c, fun n z => ⟨fun k h => (by cases h), k, h2, comp, h3⟩, k, comp, h2, h3, h1, h4⟩
theorem ka_start {s : State} {B : Array Value} (hts : ∀ w ∈ lw_tbl, w.before B s = true) (htj : ∀ w ∈ jwd, w.before B s = true) : ∃ (D : va_G) (ty : Nat → ClassId), va_K D jcl (j_tys ty) s := by
  obtain ⟨c0, i0, k0⟩ := u_known (C := RX0) (T := TX0) (N := 7) (n := 7) htj jin_0 (htj _ wd_2_29)
  obtain ⟨c1, i1, k1⟩ := u_known (C := RX1) (T := TX1) (N := 9) (n := 9) htj jin_1 (htj _ wd_2_82)
  obtain ⟨c2, i2, k2⟩ := u_known (C := RX2) (T := TX2) (N := 4) (n := 4) htj jin_2 (htj _ wd_3_204)
  obtain ⟨c3, i3, k3⟩ := u_known (C := RX3) (T := TX3) (N := 2) (n := 2) htj jin_3 (htj _ wd_3_228)
  obtain ⟨c4, i4, k4⟩ := u_known (C := RX4) (T := TX4) (N := 2) (n := 2) htj jin_4 (htj _ wd_3_182)
  obtain ⟨c5, i5, k5⟩ := u_known (C := RX5) (T := TX5) (N := 9) (n := 9) htj jin_5 (htj _ wd_2_209)
  obtain ⟨c6, i6, k6⟩ := u_known (C := RX6) (T := TX6) (N := 9) (n := 9) htj jin_6 (htj _ wd_3_79)
  obtain ⟨c7, i7, k7⟩ := u_known (C := RX7) (T := TX7) (N := 2) (n := 2) htj jin_7 (htj _ wd_3_176)
  obtain ⟨c8, i8, k8⟩ := u_known (C := RX8) (T := TX8) (N := 3) (n := 3) htj jin_8 (htj _ wd_4_12)
  obtain ⟨c9, i9, k9⟩ := u_known (C := RX9) (T := TX9) (N := 13) (n := 13) htj jin_9 (htj _ wd_1_27)
  obtain ⟨t0, a0⟩ := ka_prim (t := .int) (by intro C h; cases h) (htj _ wd_3_194)
  obtain ⟨t1, a1⟩ := ka_prim (t := .boolean) (by intro C h; cases h) (htj _ wd_5_67)
  obtain ⟨t2, a2⟩ := ka_prim (t := .char) (by intro C h; cases h) (htj _ wd_5_68)
  obtain ⟨t3, a3⟩ := ka_obj (C := RX4) (hts _ (lt_3 (i := 195) rfl))
  refine ⟨(fun k => ([c0, c1, c2, c3, c4, c5, c6, c7, c8, c9] : List ClassId).getD k c0, fun k => ([i0, i1, i2, i3, i4, i5, i6, i7, i8, i9] : List (Nat → Nat)).getD k i0), fun k => ([t0, t1, t2, t3] : List ClassId).getD k t0, fun k q hq => ?_, fun k q hq => ?_⟩
  · match k, hq with
    | 0, hq => cases hq; exact k0
    | 1, hq => cases hq; exact k1
    | 2, hq => cases hq; exact k2
    | 3, hq => cases hq; exact k3
    | 4, hq => cases hq; exact k4
    | 5, hq => cases hq; exact k5
    | 6, hq => cases hq; exact k6
    | 7, hq => cases hq; exact k7
    | 8, hq => cases hq; exact k8
    | 9, hq => cases hq; exact k9
    | k + 10, hq => simp [jcl] at hq
  · match k, hq with
    | 0, hq => cases hq; exact a0
    | 1, hq => cases hq; exact a1
    | 2, hq => cases hq; exact a2
    | 3, hq => cases hq; exact a3
    | k + 4, hq => simp [j_tys] at hq
theorem j_X_start {s : State} {B : Array Value} (hts : ∀ w ∈ lw_tbl, w.before B s = true) : j_X s := ⟨va_AO.of (hts _ (lt_3 (i := 195) rfl)), va_Nw.of rfl (hts _ (lt_3 (i := 229) rfl)), va_Nw.of rfl (hts _ (lt_4 (i := 51) rfl)), va_Nw.of rfl (hts _ (lt_4 (i := 90) rfl)), va_Nw.of rfl (hts _ (lt_4 (i := 129) rfl))⟩

/-! ===== the law's own methods: one call each, its throws told by numbers ===== -/
abbrev jlw : String := "MergeWorkbenchLaw"
abbrev j_wsW (y : MethodName) (cc : ByteArray) (n : Nat) (hh : List (Nat × Nat × Nat × Nat)) : List Cond := .codeWith y cc n (some .int) hh :: jwd
def JMw (D : va_G) (Y : JY) (ty : Nat → ClassId) (ad : Nat → Nat) (sz : Nat) (l : Launch) (y : MethodName) (cc : ByteArray) (n : Nat) (hh : List (Nat × Nat × Nat × Nat)) (fr lo mc ms : Nat) (As : List Value) (M : JM) (r : Int32) (M' : JM) : Prop :=
  Met l y (j_wsW y cc n hh) (j_rm fr lo mc ms) (va_Pc As (jt_Pre D Y ty ad M sz)) (va_Qi (fun (v : Int32) (u : JM) => v = r ∧ u = M') (j_Po D Y ty ad (j_A Y ad sz)) (j_A Y ad sz)) mc ms (j_A Y ad sz)
theorem j_ofWH {l : Launch} {y : MethodName} {ws ws' : List Cond} {rm : Room} {Pc : Array Value → State → Prop} {Qc : Array Value → State → Outcome → State → Prop} {mc ms : Nat} {free : Addr → Prop} {cc : ByteArray} {maxL : Nat} {ret : Option FieldType} {hh : List (Nat × Nat × Nat × Nat)}
    (hy : plainName y.cls = true) (hw : ws = Cond.codeWith y cc maxL ret hh :: ws')
    (body : ∀ p e s m args below meth c s₁, BodyLoose p l y (headSpec ws rm) cc maxL ret e s m args below meth c s₁ → c.maxLocals = maxL → Pc args s →
      W p l e (headSpec ws rm).room s m args below meth c s.heap [] 0 0 (MQ below Qc args s mc ms free) (entryFrame m args maxL)) : Met l y ws rm Pc Qc mc ms free := by
  refine MetFree.of_bodyS (code := cc) (maxLocals := maxL) (ret := ret) hy ?_ ?_
  · intro args s m h hn
    obtain ⟨m9, meth, c, hn9, h1, h2, h3, h4, -, h5, h6, -⟩ := Cond.codeWith_spec (atoms_spec (ws := ws) h _ (by rw [hw]; exact List.mem_cons_self))
    cases hn.symm.trans hn9
    exact ⟨meth, c, h1, h2, h3, h4, h5, h6⟩
  · intro p e s m args below meth c s₁ B hml hP _
    have hh0 : s₁.heap = s.heap := by rw [B.state]; rfl
    obtain ⟨t, a1, o, b1, b2, b3⟩ := body p e s m args below meth c s₁ B hml hP s₁ hh0 (Stand.of_body B)
    exact ⟨t, o, a1, b1, b2, b3⟩
section JWE
variable {D : va_G} {Y : JY} {ty : Nat → ClassId} {ad : Nat → Nat} {sz : Nat} {l : Launch} {y : MethodName} {cc : ByteArray} {n fr lo mc ms : Nat} {As : List Value} {M : JM} {hh : List (Nat × Nat × Nat × Nat)}
theorem j_ofw {r : Int32} {M' : JM} (hY : j_ok Y) (hy : plainName y.cls = true) (hn : (lg_sl As).length ≤ n) (hown : y.cls = jlw)
    (body : ∀ (p : Program) (e : Env) (s : State) (m : MethodId) (below : List Frame) (meth : Method) (c : Code) (args : Array Value) (R : Room) (Q : State → Prop) (A : Nat → Prop), R.frames = fr → R.locals = lo → R.cells = mc → R.slots = ms → (∀ q, s.heap.size ≤ q → A q) → JC D Y ty p s m args c cc n jlw → JX A s s.heap → c.exceptionTable.toList = tableOf hh → JW D Y ty ad A s.heap M s.heap [] →
      (∀ (H : Heap) (locs : List Loc) (cells slots : Nat) (ls : Array Slot) (pc : Nat) (v : Int32) (M1 : JM), v = r → M1 = M' → JW D Y ty ad A s.heap M1 H locs → cells ≤ R.cells ∧ slots ≤ R.slots → decode cc pc = .ok (.ireturn, 1) → W p l e R s m args below meth c H locs cells slots Q (F0 m pc ls [.int v])) →
      ∀ ls : Array Slot, lv_has ls n (lv_args 0 As) → W p l e R s m args below meth c s.heap [] 0 0 Q (F0 m 0 ls [])) : JMw D Y ty ad sz l y cc n hh fr lo mc ms As M r M' := by
  refine j_ofWH (cc := cc) (maxL := n) (ret := some .int) (hh := hh) hy rfl ?_
  intro p e s m args below meth c s₁ B hml hv
  obtain ⟨rfl, ⟨hsz, hP, hK, hD0⟩, hX⟩ := hv
  have hts := atoms_spec (ws := j_wsW y cc n hh) B.pre
  have hown1 : s.vm.findClass jlw = some m.cls := by rw [← hown]; exact findClass_of_methodNamed B.named
  have htab := vx_table (x := y) B (hts _ List.mem_cons_self)
  have hl := lv_entry As (n := n) hn
  rw [lg_entry_eq]
  have jc : JC D Y ty p s m As.toArray c cc n jlw := ⟨B.exec, B.bytes, hml, hown1, fun w h => hts w (List.mem_cons_of_mem _ h), hK, hY⟩
  have w0 : JW D Y ty ad (j_A Y ad sz) s.heap M s.heap [] := ⟨hP, j_w_D hD0 (fun o ho => Or.inl ⟨o, ho, rfl⟩), va_S.rf⟩
  subst hsz
  refine body p e s m below meth c _ _ _ _ rfl rfl rfl rfl j_A_ge jc hX htab w0 (fun H locs cells slots ls pc v M1 hv hM w1 hcs hdg => ?_) _ hl
  subst hv; subst hM
  refine j_wid (k := mc) (n := ms) hcs.1 hcs.2 ?_
  exact W.iret jc.1 jc.2.1 B.returns (fun t ht hW => ⟨⟨v, M1, rfl, ⟨rfl, rfl⟩, (j_endP jc w1 ht hW).1⟩, (j_endP jc w1 ht hW).2⟩) w1.2.2.2.2 hdg B.notSynchronized
end JWE
section JWC
variable {p : Program} {l : Launch} {e : Env} {R : Room} {s : State} {m : MethodId} {args : Array Value} {below : List Frame} {meth : Method} {c : Code} {H : Heap} {locs : List Loc} {cells slots : Nat} {Q : State → Prop}
variable {cc : ByteArray} {nL pc : Nat} {own : String} {ls : Array Slot} {rest : List Value} {D : va_G} {Y : JY} {ty : Nat → ClassId} {ad : Nat → Nat} {A : Nat → Prop} {M : JM} {hh : List (Nat × Nat × Nat × Nat)}
theorem jw_catch {k : Nat} {ce : Cell} {q : Addr} (pre : List (Nat × Nat × Nat × Nat)) (x : Nat × Nat × Nat × Nat) (suf : List (Nat × Nat × Nat × Nat)) (jc : JC D Y ty p s m args c cc nL own) (jx : JX A s s.heap) (htab : c.exceptionTable.toList = tableOf hh) (hs : hh = pre ++ x :: suf) (hk : k < 5)
    (hpass : ∀ z ∈ pre, z.2.2.2 ≠ 0 ∧ ∃ j : Nat, j < 5 ∧ k ≠ j ∧ j = 4 ∧ Cond.classLink own z.2.2.2 (jxn j) ∈ jwd) (hx : covers ⟨x.1, x.2.1, x.2.2.1, x.2.2.2⟩ pc = true) (h0 : x.2.2.2 ≠ 0) (hlink : Cond.classLink own x.2.2.2 (jxn k) ∈ jwd)
    (hcell : H[q]? = some ce) (hv : ce.vm = .none) (hcl : s.vm.findClass (jxn k) = some ce.cls)
    (kk : W p l e R s m args below meth c H locs cells slots Q (F0 m x.2.2.1 ls [.ref q])) : vx_W p l e R s m args below meth c H locs cells slots Q (F0 m pc ls rest) q := by
  refine vx_catch (own := own) (name := jxn k) (E := jxn k) (ce := ce) jc.2.2.2.1 (tableOf pre) ⟨x.1, x.2.1, x.2.2.1, x.2.2.2⟩ (tableOf suf) (by rw [htab, hs]; simp [tableOf]) ?_ hx h0 (jc.2.2.2.2.1 _ hlink) (va_Nw.use rfl (jx.2.2.1.1 k hk)) hcell hv hcl kk
  intro z hz
  obtain ⟨y, hy, rfl⟩ := List.mem_map.mp hz
  obtain ⟨h1, j, hj, hkj, h4, hl⟩ := hpass y hy
  exact Or.inr ⟨h1, jxn j, jc.2.2.2.2.1 _ hl, jx.2.2.2.2 k hk j hj hkj h4⟩
end JWC

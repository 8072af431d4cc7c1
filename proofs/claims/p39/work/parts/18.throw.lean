/-! ===== methods that may throw: what they know, contracts, calls ===== -/
def jxn (k : Nat) : String := (["java/lang/IllegalArgumentException", "java/lang/IllegalStateException", "java/lang/IndexOutOfBoundsException", "java/util/NoSuchElementException", "java/lang/UnsupportedOperationException"] : List String).getD k ""
abbrev jxm : List String := ["java/lang/RuntimeException", "java/lang/Exception"]
abbrev jxY : List String := ["java/lang/RuntimeException", "java/lang/Exception", "java/lang/Throwable"]
def jxB : List Cond := (List.range 5).map (fun k => .castable (jxn k) (jxn k)) ++ jxY.map (fun x => .declares (Bundle.initS x))
def jxS : List (Nat × String) := [(108, "no such position"), (149, "the input is full"), (166, "the document would have too many lines"), (170, "no such mode"), (223, "no such minimum"), (259, "no such index"), (268, "no such context"), (277, "no such fuzz"), (292, "no such outcome"), (294, "no such property"), (301, "there is nothing to undo"), (314, "nothing was saved"), (319, "no such register"), (324, "no such line"), (326, "the document is full"), (331, "there is no comparison"), (334, "there is no merge"), (337, "there is no patch")]
def JX (A : Nat → Prop) (U : State) (H : Heap) : Prop := vx_Zq Bundle.tN "UNASSIGNED_STACK" Bundle.steD A U H ∧ vx_Zq Bundle.tN "SUPPRESSED_SENTINEL" Bundle.listD A U H ∧ ((∀ k, k < 5 → va_Nw (.castable (jxn k) (jxn k)) U) ∧ ∀ x ∈ jxY, va_Nw (.declares (Bundle.initS x)) U) ∧ (∀ t ∈ jxS, ∃ sa, vk_R RX9 t.1 t.2 sa U) ∧ (∀ k, k < 5 → ∀ j, j < 5 → k ≠ j → j = 4 → va_Nc (jxn k) (jxn j) U)
theorem JX.kept {A : Nat → Prop} {U : State} {H H1 : Heap} (h : JX A U H) (hq : ∀ a : Nat, a < H.size → ¬ A a → H1[a]? = H[a]?) : JX A U H1 := ⟨h.1.kept hq, h.2.1.kept hq, h.2.2⟩
theorem JX.narrow {A B : Nat → Prop} {U : State} {H : Heap} (h : JX A U H) (hAB : ∀ q, B q → A q) : JX B U H := ⟨h.1.narrow hAB, h.2.1.narrow hAB, h.2.2⟩
theorem JX.warm {A : Nat → Prop} {s U : State} {H : Heap} (hW : s.WarmedH U.vm) (h : JX A s H) : JX A U H := ⟨vx_Zq.moved hW.alike h.1, vx_Zq.moved hW.alike h.2.1, ⟨fun k hk => va_Nw.warmC hW (h.2.2.1.1 k hk), fun x hx => va_Nw.warmD hW (h.2.2.1.2 x hx)⟩, fun t ht => (h.2.2.2.1 t ht).elim fun sa q => ⟨sa, vk_R.warm hW q⟩, fun k hk j hj hn h4 => va_Nc.moved hW.alike (h.2.2.2.2 k hk j hj hn h4)⟩
theorem JX.same {A : Nat → Prop} {u U : State} {H : Heap} (hv : U.vm = u.vm) (h : JX A u H) : JX A U H := ⟨vx_Zq.moved (by rw [hv]; exact Vm.Alike.refl _) h.1, vx_Zq.moved (by rw [hv]; exact Vm.Alike.refl _) h.2.1, ⟨fun k hk => va_Nw.same rfl hv.symm (h.2.2.1.1 k hk), fun x hx => va_Nw.same rfl hv.symm (h.2.2.1.2 x hx)⟩, fun t ht => (h.2.2.2.1 t ht).elim fun sa q => ⟨sa, vk_R.same hv q⟩, fun k hk j hj hn h4 => va_Nc.moved (by rw [hv]; exact Vm.Alike.refl _) (h.2.2.2.2 k hk j hj hn h4)⟩
def jt_Pre (D : va_G) (Y : JY) (ty : Nat → ClassId) (ad : Nat → Nat) (M : JM) (sz : Nat) : State → Prop := fun U => j_Pre D Y ty ad M sz U ∧ JX (j_A Y ad sz) U U.heap
theorem j_blindT {D : va_G} {Y : JY} {ty : Nat → ClassId} {ad : Nat → Nat} {M : JM} {sz : Nat} {As : List Value} : FrameBlind (va_Pc As (jt_Pre D Y ty ad M sz)) := by
  intro a U g mk q
  obtain ⟨q0, ⟨q1, qP, qK, qD⟩, qX⟩ := q
  exact ⟨q0, ⟨q1, qP, va_K.moved (u := U) (U := U.calling g mk a) (Vm.Alike.refl U.vm) qK, qD⟩, JX.same (u := U) rfl qX⟩
abbrev Jt (α : Type) : Type := (Nat × JM) ⊕ α
def jt_X (D : va_G) (Y : JY) (ty : Nat → ClassId) (ad : Nat → Nat) (A : Nat → Prop) (P : Nat × JM → Prop) : String → State → State → Prop := vx_X P (fun (E : String) (t : Nat × JM) (U : State) => E = jxn t.1 ∧ j_Po D Y ty ad A t.2 U) A
def JTi (D : va_G) (Y : JY) (ty : Nat → ClassId) (ad : Nat → Nat) (sz : Nat) (l : Launch) (y : MethodName) (cc : ByteArray) (n : Nat) (fr lo mc ms : Nat) (As : List Value) (M : JM) (r : Jt (Int32 × JM)) : Prop :=
  vx_Met l y (j_ws y cc n (some .int)) (j_rm fr lo mc ms) (va_Pc As (jt_Pre D Y ty ad M sz)) (va_Qi (fun (v : Int32) (u : JM) => Sum.inr (v, u) = r) (j_Po D Y ty ad (j_A Y ad sz)) (j_A Y ad sz)) (jt_X D Y ty ad (j_A Y ad sz) (fun t => Sum.inl t = r)) mc ms (j_A Y ad sz)
def JTz (D : va_G) (Y : JY) (ty : Nat → ClassId) (ad : Nat → Nat) (sz : Nat) (l : Launch) (y : MethodName) (cc : ByteArray) (n : Nat) (fr lo mc ms : Nat) (As : List Value) (M : JM) (r : Jt (Int32 × JM)) : Prop :=
  vx_Met l y (j_ws y cc n (some .boolean)) (j_rm fr lo mc ms) (va_Pc As (jt_Pre D Y ty ad M sz)) (va_Qi (fun (v : Int32) (u : JM) => Sum.inr (v, u) = r ∧ (v = 0 ∨ v = 1)) (j_Po D Y ty ad (j_A Y ad sz)) (j_A Y ad sz)) (jt_X D Y ty ad (j_A Y ad sz) (fun t => Sum.inl t = r)) mc ms (j_A Y ad sz)
def JTd (D : va_G) (Y : JY) (ty : Nat → ClassId) (ad : Nat → Nat) (sz : Nat) (l : Launch) (y : MethodName) (cc : ByteArray) (n : Nat) (fr lo mc ms : Nat) (As : List Value) (M : JM) (r : Jt (UInt64 × JM)) : Prop :=
  vx_Met l y (j_ws y cc n (some .double)) (j_rm fr lo mc ms) (va_Pc As (jt_Pre D Y ty ad M sz)) (va_Qd (fun (v : UInt64) (u : JM) => Sum.inr (v, u) = r) (j_Po D Y ty ad (j_A Y ad sz)) (j_A Y ad sz)) (jt_X D Y ty ad (j_A Y ad sz) (fun t => Sum.inl t = r)) mc ms (j_A Y ad sz)
def JTv (D : va_G) (Y : JY) (ty : Nat → ClassId) (ad : Nat → Nat) (sz : Nat) (l : Launch) (y : MethodName) (cc : ByteArray) (n : Nat) (fr lo mc ms : Nat) (As : List Value) (M : JM) (r : Jt JM) : Prop :=
  vx_Met l y (j_ws y cc n none) (j_rm fr lo mc ms) (va_Pc As (jt_Pre D Y ty ad M sz)) (va_Qv (fun (u : JM) => Sum.inr u = r) (j_Po D Y ty ad (j_A Y ad sz)) (j_A Y ad sz)) (jt_X D Y ty ad (j_A Y ad sz) (fun t => Sum.inl t = r)) mc ms (j_A Y ad sz)
def JTr (D : va_G) (Y : JY) (ty : Nat → ClassId) (ad : Nat → Nat) (sz : Nat) (l : Launch) (y : MethodName) (cc : ByteArray) (n : Nat) (ret : Option FieldType) (fr lo mc ms : Nat) (As : List Value) (M : JM) (r : Jt (Nat × JM)) (kc : Nat) : Prop :=
  vx_Met l y (j_ws y cc n ret) (j_rm fr lo mc ms) (va_Pc As (jt_Pre D Y ty ad M sz)) (va_Qr (fun (u : Nat × JM) => Sum.inr u = r ∧ j_kd Y u.1 = kc) (fun (u : Nat × JM) (a : Nat) (t : State) => a = ad u.1 ∧ j_Po D Y ty ad (j_A Y ad sz) u.2 t) (j_A Y ad sz)) (jt_X D Y ty ad (j_A Y ad sz) (fun t => Sum.inl t = r)) mc ms (j_A Y ad sz)
/-- a throw's words -/
abbrev jxrx : ByteArray := ⟨#[0x2a, 0x2b, 0xb7, 0x00, 0x0d, 0xb1]⟩
def jxw (k ic : Nat) : List Cond := if k = 3 then (jx_N RX9 ic (jxn k) "java/lang/RuntimeException" 13 jxrx ["java/lang/Exception"]).filter vx_no else vx_atS RX9 ic (jxn k) jxm
abbrev jxt (k ik ic : Nat) : Prop := Cond.classLink RX9 ik (jxn k) ∈ jwd ∧ Cond.initialized (jxn k) ∈ jwd ∧ (∀ w ∈ (jxw k ic).filter goodWord, w ∈ lw_tbl) ∧ (∀ w ∈ (jxw k ic).filter (fun w => !goodWord w), w ∈ jxB) ∧ (∀ w ∈ Cond.classLink RX9 ik (jxn k) :: Cond.initialized (jxn k) :: jxw k ic, vx_ot w = true) ∧ Bundle.fit (jxn k) = true
theorem jxm_fit : ∀ n ∈ jxm, Bundle.fit n = true := by decide +kernel
theorem jx_B {s : State} {A : Nat → Prop} {args : Array Value} {H : Heap} (h : JX A s H) : ∀ w ∈ jxB, w.before args s = true := by
  intro w hw
  rcases List.mem_append.mp hw with hw | hw
  · obtain ⟨k, hk, rfl⟩ := List.mem_map.mp hw
    exact va_Nw.use rfl (h.2.2.1.1 k (List.mem_range.mp hk))
  · obtain ⟨x, hx, rfl⟩ := List.mem_map.mp hw
    exact va_Nw.use rfl (h.2.2.1.2 x hx)
theorem jx_at {s : State} {A : Nat → Prop} {args : Array Value} {H : Heap} {k ik ic : Nat} (h : JX A s H) (hw : ∀ w ∈ jwd, w.before args s = true) (t : jxt k ik ic) : ∀ w ∈ jxw k ic, w.before args s = true :=
  vx_hat (B := jxB) (fun w q => hw w (List.mem_filter.mpr ⟨t.2.2.1 w q, (List.mem_filter.mp q).2⟩)) t.2.2.2.1 (jx_B h)
theorem jxw_3 {ic : Nat} : jxw 3 ic = (jx_N RX9 ic (jxn 3) "java/lang/RuntimeException" 13 jxrx ["java/lang/Exception"]).filter vx_no := by unfold jxw; rw [if_pos rfl]
theorem jxw_n {k ic : Nat} (h : ¬ k = 3) : jxw k ic = vx_atS RX9 ic (jxn k) jxm := by unfold jxw; rw [if_neg h]
theorem jxrx_0 : decode jxrx 0 = .ok (.aload_n 0, 1) := by decide +kernel
theorem jxrx_1 : decode jxrx 1 = .ok (.aload_n 1, 1) := by decide +kernel
theorem jxrx_2 : decode jxrx 2 = .ok (.invokespecial 13, 3) := by decide +kernel
theorem jxrx_5 : decode jxrx 5 = .ok (.return_, 1) := by decide +kernel
section JTH
variable {p : Program} {l : Launch} {e : Env} {R : Room} {s : State} {m : MethodId} {args : Array Value} {below : List Frame} {meth : Method} {c : Code} {H : Heap} {locs : List Loc} {cells slots : Nat}
variable {cc : ByteArray} {nL pc : Nat} {ls : Array Slot} {rest : List Value} {D : va_G} {Y : JY} {ty : Nat → ClassId} {ad : Nat → Nat} {A : Nat → Prop} {M : JM} {own : String} {mc ms : Nat} {Qc : Array Value → State → Outcome → State → Prop} {P : Nat × JM → Prop}
theorem j_wid {Q : State → Prop} {g : JFrame} {k n : Nat} (h1 : cells ≤ k) (h2 : slots ≤ n) (kk : W p l e R s m args below meth c H locs k n Q g) : W p l e R s m args below meth c H locs cells slots Q g := fun T hT X => kk T hT (stand_widen X h1 h2)
theorem j_poT {t : State} (jc : JC D Y ty p s m args c cc nL own) (w : JW D Y ty ad A s.heap M H locs) (hvm : s.vm.Alike t.vm) (hz : H.size ≤ t.heap.size) (hq : ∀ q : Nat, q < H.size → t.heap[q]? = H[q]?) : j_Po D Y ty ad A M t ∧ va_F A s t :=
  ⟨⟨w.1.kept (fun k q hk => hq _ (vx_lt w.1 hk)), va_K.moved hvm jc.2.2.2.2.2.1, w.2.1⟩, Nat.le_trans w.2.2.1 hz, fun q h1 h2 => by rw [hq q (Nat.lt_of_lt_of_le h1 w.2.2.1)]; exact w.2.2.2.1 q h1 h2⟩
theorem jx_throw {k ik is ic : Nat} {text : String} (hl : l.stackTraces = false) (jc : JC D Y ty p s m args c cc nL RX9) (w : JW D Y ty ad A s.heap M H locs) (jx : JX A s s.heap) (t : jxt k ik ic) (hs : (is, text) ∈ jxS) (hls : ls.size = nL) (hr : (rest.map fun v => v.category).sum ≤ 8)
    (d0 : decode cc pc = .ok (.new ik, 3)) (d3 : decode cc (pc + 3) = .ok (.dup, 1)) (d4 : decode cc (pc + 4) = .ok (.ldc is, 2)) (d6 : decode cc (pc + 6) = .ok (.invokespecial ic, 3)) (d9 : decode cc (pc + 9) = .ok (.athrow, 1))
    (hout : ∀ x ∈ c.exceptionTable.toList, False) (hR : 6 ≤ R.frames ∧ 90 ≤ R.locals ∧ cells + 1 ≤ R.cells ∧ slots + 6 ≤ R.slots) (hc : cells + 1 ≤ mc ∧ slots + 6 ≤ ms) (hlocks : meth.locks = false) (hP : P (k, M)) :
    W p l e R s m args below meth c H locs cells slots (vx_MQ below Qc (jt_X D Y ty ad A P) args s mc ms A) (F0 m pc ls rest) := by
  obtain ⟨sa, hsa⟩ := jx.2.2.2.1 _ hs
  by_cases h3 : k = 3
  · subst h3
    have ha := jx_at jx jc.2.2.2.2.1 t
    have hg := t.2.2.2.2.1
    rw [jxw_3] at ha hg
    exact jx_throwN (own := RX9) (cls := jxn 3) (text := text) (names := ["java/lang/Exception"]) (ik := ik) (is := is) (ic := ic) (sa := sa) (A := A) jc.1 jc.2.1 hl jc.2.2.2.1 jxrx_0 jxrx_1 jxrx_2 jxrx_5 (by decide +kernel) t.2.2.2.2.2 (fun n hn => jxm_fit n (List.mem_cons_of_mem _ hn)) (jc.2.2.2.2.1 _ t.1) (jc.2.2.2.2.1 _ t.2.1) hsa ha hg jx.1 jx.2.1 w.2.2 (hls.trans jc.2.2.1.symm) d0 d3 d4 d6 d9 (fun x hx => (hout x hx).elim) hR.1 (by show (rest.map fun v => v.category).sum + 82 ≤ R.locals; omega) hR.2.2.1 hR.2.2.2 hlocks (fun u h1 h2 h3 => ⟨(3, M), hP, ⟨rfl, (j_poT jc w h1 h2 h3).1⟩, (j_poT jc w h1 h2 h3).2⟩) w.2.2.2.2 hc.1 hc.2
  · have ha := jx_at jx jc.2.2.2.2.1 t
    have hg := t.2.2.2.2.1
    rw [jxw_n h3] at ha hg
    exact vx_throwS (own := RX9) (cls := jxn k) (text := text) (names := jxm) (ik := ik) (is := is) (ic := ic) (sa := sa) (A := A) jc.1 jc.2.1 hl jc.2.2.2.1 t.2.2.2.2.2 jxm_fit (jc.2.2.2.2.1 _ t.1) (jc.2.2.2.2.1 _ t.2.1) hsa ha hg jx.1 jx.2.1 w.2.2 (hls.trans jc.2.2.1.symm) d0 d3 d4 d6 d9 (fun x hx => (hout x hx).elim) hR.1 (by show (rest.map fun v => v.category).sum + 82 ≤ R.locals; omega) hR.2.2.1 hR.2.2.2 hlocks (fun u h1 h2 h3 => ⟨(k, M), hP, ⟨rfl, (j_poT jc w h1 h2 h3).1⟩, (j_poT jc w h1 h2 h3).2⟩) w.2.2.2.2 hc.1 hc.2
theorem jx_throwW {k ik is ic : Nat} {text : String} (hl : l.stackTraces = false) (jc : JC D Y ty p s m args c cc nL RX9) (w : JW D Y ty ad A s.heap M H locs) (jx : JX A s s.heap) (t : jxt k ik ic) (hs : (is, text) ∈ jxS) (hls : ls.size = nL) (hr : (rest.map fun v => v.category).sum ≤ 8)
    (d0 : decode cc pc = .ok (.new ik, 3)) (d3 : decode cc (pc + 3) = .ok (.dup, 1)) (d4 : decode cc (pc + 4) = .ok (.ldc_w is, 3)) (d6 : decode cc (pc + 7) = .ok (.invokespecial ic, 3)) (d9 : decode cc (pc + 10) = .ok (.athrow, 1))
    (hout : ∀ x ∈ c.exceptionTable.toList, False) (hR : 6 ≤ R.frames ∧ 90 ≤ R.locals ∧ cells + 1 ≤ R.cells ∧ slots + 6 ≤ R.slots) (hc : cells + 1 ≤ mc ∧ slots + 6 ≤ ms) (hlocks : meth.locks = false) (hP : P (k, M)) :
    W p l e R s m args below meth c H locs cells slots (vx_MQ below Qc (jt_X D Y ty ad A P) args s mc ms A) (F0 m pc ls rest) := by
  obtain ⟨sa, hsa⟩ := jx.2.2.2.1 _ hs
  by_cases h3 : k = 3
  · subst h3
    have ha := jx_at jx jc.2.2.2.2.1 t
    have hg := t.2.2.2.2.1
    rw [jxw_3] at ha hg
    exact jx_throwNW (own := RX9) (cls := jxn 3) (text := text) (names := ["java/lang/Exception"]) (ik := ik) (is := is) (ic := ic) (sa := sa) (A := A) jc.1 jc.2.1 hl jc.2.2.2.1 jxrx_0 jxrx_1 jxrx_2 jxrx_5 (by decide +kernel) t.2.2.2.2.2 (fun n hn => jxm_fit n (List.mem_cons_of_mem _ hn)) (jc.2.2.2.2.1 _ t.1) (jc.2.2.2.2.1 _ t.2.1) hsa ha hg jx.1 jx.2.1 w.2.2 (hls.trans jc.2.2.1.symm) d0 d3 d4 d6 d9 (fun x hx => (hout x hx).elim) hR.1 (by show (rest.map fun v => v.category).sum + 82 ≤ R.locals; omega) hR.2.2.1 hR.2.2.2 hlocks (fun u h1 h2 h3 => ⟨(3, M), hP, ⟨rfl, (j_poT jc w h1 h2 h3).1⟩, (j_poT jc w h1 h2 h3).2⟩) w.2.2.2.2 hc.1 hc.2
  · have ha := jx_at jx jc.2.2.2.2.1 t
    have hg := t.2.2.2.2.1
    rw [jxw_n h3] at ha hg
    exact vx_throwSW (own := RX9) (cls := jxn k) (text := text) (names := jxm) (ik := ik) (is := is) (ic := ic) (sa := sa) (A := A) jc.1 jc.2.1 hl jc.2.2.2.1 t.2.2.2.2.2 jxm_fit (jc.2.2.2.2.1 _ t.1) (jc.2.2.2.2.1 _ t.2.1) hsa ha hg jx.1 jx.2.1 w.2.2 (hls.trans jc.2.2.1.symm) d0 d3 d4 d6 d9 (fun x hx => (hout x hx).elim) hR.1 (by show (rest.map fun v => v.category).sum + 82 ≤ R.locals; omega) hR.2.2.1 hR.2.2.2 hlocks (fun u h1 h2 h3 => ⟨(k, M), hP, ⟨rfl, (j_poT jc w h1 h2 h3).1⟩, (j_poT jc w h1 h2 h3).2⟩) w.2.2.2.2 hc.1 hc.2
/-- a throw that goes on to the caller -/
theorem jx_out {k : Nat} {ce : Cell} {q : Addr} (jc : JC D Y ty p s m args c cc nL own) (w : JW D Y ty ad A s.heap M H locs) (hout : ∀ x ∈ c.exceptionTable.toList, False) (hlocks : meth.locks = false) (hcell : H[q]? = some ce) (hv : ce.vm = .none) (hcl : s.vm.findClass (jxn k) = some ce.cls) (hc : cells ≤ mc ∧ slots ≤ ms) (hP : P (k, M)) :
    vx_W p l e R s m args below meth c H locs cells slots (vx_MQ below Qc (jt_X D Y ty ad A P) args s mc ms A) (F0 m pc ls rest) q :=
  vx_out (E := jxn k) (ce := ce) (fun x hx => (hout x hx).elim) hlocks hcell hv hcl (fun t ht hvm => ⟨(k, M), hP, ⟨rfl, (j_poT jc w hvm (by rw [ht]; exact Nat.le_refl _) (fun q _ => by rw [ht])).1⟩, (j_poT jc w hvm (by rw [ht]; exact Nat.le_refl _) (fun q _ => by rw [ht])).2⟩) w.2.2.2.2 hc.1 hc.2
end JTH
section JTE
variable {D : va_G} {Y : JY} {ty : Nat → ClassId} {ad : Nat → Nat} {sz : Nat} {l : Launch} {y : MethodName} {cc : ByteArray} {n fr lo mc ms : Nat} {As : List Value} {M : JM}
/-- the ends that all kinds share -/
abbrev jt_kt (p : Program) (l : Launch) (e : Env) (R : Room) (s : State) (m : MethodId) (args : Array Value) (below : List Frame) (meth : Method) (c : Code) (cc : ByteArray) (n mc ms : Nat) (Q : State → Prop) (D : va_G) (Y : JY) (ty : Nat → ClassId) (ad : Nat → Nat) (A : Nat → Prop) (P : Nat × JM → Prop) : Prop :=
  (∀ (H : Heap) (locs : List Loc) (cells slots : Nat) (ls : Array Slot) (pc k ik is ic : Nat) (text : String) (M1 : JM), P (k, M1) → jxt k ik ic → (is, text) ∈ jxS → JW D Y ty ad A s.heap M1 H locs → ls.size = n → decode cc pc = .ok (.new ik, 3) → decode cc (pc + 3) = .ok (.dup, 1) →
    ((decode cc (pc + 4) = .ok (.ldc is, 2) ∧ decode cc (pc + 6) = .ok (.invokespecial ic, 3) ∧ decode cc (pc + 9) = .ok (.athrow, 1)) ∨ (decode cc (pc + 4) = .ok (.ldc_w is, 3) ∧ decode cc (pc + 7) = .ok (.invokespecial ic, 3) ∧ decode cc (pc + 10) = .ok (.athrow, 1))) →
    (6 ≤ R.frames ∧ 90 ≤ R.locals ∧ cells + 1 ≤ R.cells ∧ slots + 6 ≤ R.slots) → W p l e R s m args below meth c H locs cells slots Q (F0 m pc ls [])) ∧
  (∀ (H : Heap) (locs : List Loc) (cells slots : Nat) (ls : Array Slot) (pc : Nat) (rest : List Value) (k : Nat) (ce : Cell) (q : Addr) (M1 : JM), P (k, M1) → JW D Y ty ad A s.heap M1 H locs → H[q]? = some ce → ce.vm = .none → s.vm.findClass (jxn k) = some ce.cls → cells ≤ R.cells ∧ slots ≤ R.slots →
    vx_W p l e R s m args below meth c H locs cells slots Q (F0 m pc ls rest) q)
theorem jt_start {ret : Option FieldType} {Qc : Array Value → State → Outcome → State → Prop} {P : Nat × JM → Prop} (hl9 : l.stackTraces = false) (hY : j_ok Y) (hy : plainName y.cls = true) (hn : (lg_sl As).length ≤ n) (hown : y.cls = RX9)
    (body : ∀ (p : Program) (e : Env) (s : State) (m : MethodId) (below : List Frame) (meth : Method) (c : Code) (R : Room), R.frames = fr → R.locals = lo → R.cells = mc → R.slots = ms → s.heap.size = sz → meth.sig.returnType = ret → meth.locks = false →
      JC D Y ty p s m As.toArray c cc n RX9 → JX (j_A Y ad sz) s s.heap → JW D Y ty ad (j_A Y ad sz) s.heap M s.heap [] → jt_kt p l e R s m As.toArray below meth c cc n mc ms (vx_MQ below Qc (jt_X D Y ty ad (j_A Y ad sz) P) As.toArray s mc ms (j_A Y ad sz)) D Y ty ad (j_A Y ad sz) P →
      ∀ ls : Array Slot, lv_has ls n (lv_args 0 As) → W p l e R s m As.toArray below meth c s.heap [] 0 0 (vx_MQ below Qc (jt_X D Y ty ad (j_A Y ad sz) P) As.toArray s mc ms (j_A Y ad sz)) (F0 m 0 ls [])) :
    vx_Met l y (j_ws y cc n ret) (j_rm fr lo mc ms) (va_Pc As (jt_Pre D Y ty ad M sz)) Qc (jt_X D Y ty ad (j_A Y ad sz) P) mc ms (j_A Y ad sz) := by
  refine vx_ofW (cc := cc) (maxL := n) (ret := ret) hy rfl ?_
  intro p e s m args below meth c s₁ B hml htab hv
  obtain ⟨rfl, ⟨hsz, hP, hK, hD0⟩, hX⟩ := hv
  have hts := atoms_spec (ws := j_ws y cc n ret) B.pre
  have hown1 : s.vm.findClass RX9 = some m.cls := by rw [← hown]; exact findClass_of_methodNamed B.named
  have hl := lv_entry As (n := n) hn
  rw [lg_entry_eq]
  have jc : JC D Y ty p s m As.toArray c cc n RX9 := ⟨B.exec, B.bytes, hml, hown1, fun w h => hts w (List.mem_cons_of_mem _ h), hK, hY⟩
  refine body p e s m below meth c _ rfl rfl rfl rfl hsz B.returns B.notSynchronized jc hX ⟨hP, j_w_D hD0 (fun o ho => Or.inl ⟨o, ho, rfl⟩), ?_⟩ ⟨?_, ?_⟩ _ hl
  · exact va_S.rf
  · intro H locs cells slots ls pc k ik is ic text M1 h1 h2 h3 w h4 d0 d3 hd hR
    rcases hd with ⟨d4, d6, d9⟩ | ⟨d4, d6, d9⟩
    · exact jx_throw hl9 jc w hX h2 h3 h4 (Nat.zero_le _) d0 d3 d4 d6 d9 htab hR ⟨hR.2.2.1, hR.2.2.2⟩ B.notSynchronized h1
    · exact jx_throwW hl9 jc w hX h2 h3 h4 (Nat.zero_le _) d0 d3 d4 d6 d9 htab hR ⟨hR.2.2.1, hR.2.2.2⟩ B.notSynchronized h1
  · intro H locs cells slots ls pc rest k ce q M1 h1 w h2 h3 h4 hR
    exact jx_out jc w htab B.notSynchronized h2 h3 h4 hR h1
theorem j_ofTi {r : Jt (Int32 × JM)} (hl9 : l.stackTraces = false) (hY : j_ok Y) (hy : plainName y.cls = true) (hn : (lg_sl As).length ≤ n) (hown : y.cls = RX9)
    (body : ∀ (p : Program) (e : Env) (s : State) (m : MethodId) (below : List Frame) (meth : Method) (c : Code) (args : Array Value) (R : Room) (Q : State → Prop) (A : Nat → Prop), R.frames = fr → R.locals = lo → R.cells = mc → R.slots = ms → (∀ q, s.heap.size ≤ q → A q) → JC D Y ty p s m args c cc n RX9 → JX A s s.heap → JW D Y ty ad A s.heap M s.heap [] →
      (∀ (H : Heap) (locs : List Loc) (cells slots : Nat) (ls : Array Slot) (pc : Nat) (v : Int32) (M1 : JM), Sum.inr (v, M1) = r → JW D Y ty ad A s.heap M1 H locs → cells ≤ R.cells ∧ slots ≤ R.slots → decode cc pc = .ok (.ireturn, 1) → W p l e R s m args below meth c H locs cells slots Q (F0 m pc ls [.int v])) →
      jt_kt p l e R s m args below meth c cc n mc ms Q D Y ty ad A (fun t => Sum.inl t = r) →
      ∀ ls : Array Slot, lv_has ls n (lv_args 0 As) → W p l e R s m args below meth c s.heap [] 0 0 Q (F0 m 0 ls [])) : JTi D Y ty ad sz l y cc n fr lo mc ms As M r := by
  refine jt_start hl9 hY hy hn hown (fun p e s m below meth c R h1 h2 h3 h4 hsz hr hlocks C X w kt ls hl => ?_)
  subst hsz
  refine body p e s m below meth c _ R _ _ h1 h2 h3 h4 j_A_ge C X w (fun H locs cells slots ls pc v M1 hv w1 hcs hdg => ?_) kt ls hl
  refine vx_ret (j_wid (k := mc) (n := ms) (by rw [← h3]; exact hcs.1) (by rw [← h4]; exact hcs.2) ?_)
  exact W.iret C.1 C.2.1 hr (fun t ht hW => ⟨⟨v, M1, rfl, hv, (j_endP C w1 ht hW).1⟩, (j_endP C w1 ht hW).2⟩) w1.2.2.2.2 hdg
theorem j_ofTz {r : Jt (Int32 × JM)} (hl9 : l.stackTraces = false) (hY : j_ok Y) (hy : plainName y.cls = true) (hn : (lg_sl As).length ≤ n) (hown : y.cls = RX9)
    (body : ∀ (p : Program) (e : Env) (s : State) (m : MethodId) (below : List Frame) (meth : Method) (c : Code) (args : Array Value) (R : Room) (Q : State → Prop) (A : Nat → Prop), R.frames = fr → R.locals = lo → R.cells = mc → R.slots = ms → (∀ q, s.heap.size ≤ q → A q) → JC D Y ty p s m args c cc n RX9 → JX A s s.heap → JW D Y ty ad A s.heap M s.heap [] →
      (∀ (H : Heap) (locs : List Loc) (cells slots : Nat) (ls : Array Slot) (pc : Nat) (v : Int32) (M1 : JM), Sum.inr (v, M1) = r → (v = 0 ∨ v = 1) → JW D Y ty ad A s.heap M1 H locs → cells ≤ R.cells ∧ slots ≤ R.slots → decode cc pc = .ok (.ireturn, 1) → W p l e R s m args below meth c H locs cells slots Q (F0 m pc ls [.int v])) →
      jt_kt p l e R s m args below meth c cc n mc ms Q D Y ty ad A (fun t => Sum.inl t = r) →
      ∀ ls : Array Slot, lv_has ls n (lv_args 0 As) → W p l e R s m args below meth c s.heap [] 0 0 Q (F0 m 0 ls [])) : JTz D Y ty ad sz l y cc n fr lo mc ms As M r := by
  refine jt_start hl9 hY hy hn hown (fun p e s m below meth c R h1 h2 h3 h4 hsz hr hlocks C X w kt ls hl => ?_)
  subst hsz
  refine body p e s m below meth c _ R _ _ h1 h2 h3 h4 j_A_ge C X w (fun H locs cells slots ls pc v M1 hv hz w1 hcs hdg => ?_) kt ls hl
  refine vx_ret (j_wid (k := mc) (n := ms) (by rw [← h3]; exact hcs.1) (by rw [← h4]; exact hcs.2) ?_)
  exact W.zret C.1 C.2.1 hr (by rcases hz with h | h <;> subst h <;> rfl) (fun t ht hW => ⟨⟨v, M1, rfl, ⟨hv, hz⟩, (j_endP C w1 ht hW).1⟩, (j_endP C w1 ht hW).2⟩) w1.2.2.2.2 hdg
theorem j_ofTd {r : Jt (UInt64 × JM)} (hl9 : l.stackTraces = false) (hY : j_ok Y) (hy : plainName y.cls = true) (hn : (lg_sl As).length ≤ n) (hown : y.cls = RX9)
    (body : ∀ (p : Program) (e : Env) (s : State) (m : MethodId) (below : List Frame) (meth : Method) (c : Code) (args : Array Value) (R : Room) (Q : State → Prop) (A : Nat → Prop), R.frames = fr → R.locals = lo → R.cells = mc → R.slots = ms → (∀ q, s.heap.size ≤ q → A q) → JC D Y ty p s m args c cc n RX9 → JX A s s.heap → JW D Y ty ad A s.heap M s.heap [] →
      (∀ (H : Heap) (locs : List Loc) (cells slots : Nat) (ls : Array Slot) (pc : Nat) (v : UInt64) (M1 : JM), Sum.inr (v, M1) = r → JW D Y ty ad A s.heap M1 H locs → cells ≤ R.cells ∧ slots ≤ R.slots → decode cc pc = .ok (.dreturn, 1) → W p l e R s m args below meth c H locs cells slots Q (F0 m pc ls [.double v])) →
      jt_kt p l e R s m args below meth c cc n mc ms Q D Y ty ad A (fun t => Sum.inl t = r) →
      ∀ ls : Array Slot, lv_has ls n (lv_args 0 As) → W p l e R s m args below meth c s.heap [] 0 0 Q (F0 m 0 ls [])) : JTd D Y ty ad sz l y cc n fr lo mc ms As M r := by
  refine jt_start hl9 hY hy hn hown (fun p e s m below meth c R h1 h2 h3 h4 hsz hr hlocks C X w kt ls hl => ?_)
  subst hsz
  refine body p e s m below meth c _ R _ _ h1 h2 h3 h4 j_A_ge C X w (fun H locs cells slots ls pc v M1 hv w1 hcs hdg => ?_) kt ls hl
  refine vx_ret (j_wid (k := mc) (n := ms) (by rw [← h3]; exact hcs.1) (by rw [← h4]; exact hcs.2) ?_)
  exact W.dret C.1 C.2.1 hr (fun t ht hW => ⟨⟨v, M1, rfl, hv, (j_endP C w1 ht hW).1⟩, (j_endP C w1 ht hW).2⟩) w1.2.2.2.2 hdg
theorem j_ofTv {r : Jt JM} (hl9 : l.stackTraces = false) (hY : j_ok Y) (hy : plainName y.cls = true) (hn : (lg_sl As).length ≤ n) (hown : y.cls = RX9)
    (body : ∀ (p : Program) (e : Env) (s : State) (m : MethodId) (below : List Frame) (meth : Method) (c : Code) (args : Array Value) (R : Room) (Q : State → Prop) (A : Nat → Prop), R.frames = fr → R.locals = lo → R.cells = mc → R.slots = ms → (∀ q, s.heap.size ≤ q → A q) → JC D Y ty p s m args c cc n RX9 → JX A s s.heap → JW D Y ty ad A s.heap M s.heap [] →
      (∀ (H : Heap) (locs : List Loc) (cells slots : Nat) (ls : Array Slot) (pc : Nat) (M1 : JM), Sum.inr M1 = r → JW D Y ty ad A s.heap M1 H locs → cells ≤ R.cells ∧ slots ≤ R.slots → decode cc pc = .ok (.return_, 1) → W p l e R s m args below meth c H locs cells slots Q (F0 m pc ls [])) →
      jt_kt p l e R s m args below meth c cc n mc ms Q D Y ty ad A (fun t => Sum.inl t = r) →
      ∀ ls : Array Slot, lv_has ls n (lv_args 0 As) → W p l e R s m args below meth c s.heap [] 0 0 Q (F0 m 0 ls [])) : JTv D Y ty ad sz l y cc n fr lo mc ms As M r := by
  refine jt_start hl9 hY hy hn hown (fun p e s m below meth c R h1 h2 h3 h4 hsz hr hlocks C X w kt ls hl => ?_)
  subst hsz
  refine body p e s m below meth c _ R _ _ h1 h2 h3 h4 j_A_ge C X w (fun H locs cells slots ls pc M1 hv w1 hcs hdg => ?_) kt ls hl
  refine vx_ret (j_wid (k := mc) (n := ms) (by rw [← h3]; exact hcs.1) (by rw [← h4]; exact hcs.2) ?_)
  exact W.vret C.1 C.2.1 hr (fun t ht hW => ⟨⟨M1, rfl, hv, (j_endP C w1 ht hW).1⟩, (j_endP C w1 ht hW).2⟩) w1.2.2.2.2 hdg
theorem j_ofTr {cn : String} {kc : Nat} {r : Jt (Nat × JM)} (hl9 : l.stackTraces = false) (hY : j_ok Y) (hy : plainName y.cls = true) (hn : (lg_sl As).length ≤ n) (hown : y.cls = RX9)
    (body : ∀ (p : Program) (e : Env) (s : State) (m : MethodId) (below : List Frame) (meth : Method) (c : Code) (args : Array Value) (R : Room) (Q : State → Prop) (A : Nat → Prop), R.frames = fr → R.locals = lo → R.cells = mc → R.slots = ms → (∀ q, s.heap.size ≤ q → A q) → JC D Y ty p s m args c cc n RX9 → JX A s s.heap → JW D Y ty ad A s.heap M s.heap [] →
      (∀ (H : Heap) (locs : List Loc) (cells slots : Nat) (ls : Array Slot) (pc : Nat) (v : Nat) (M1 : JM), Sum.inr (v, M1) = r → j_kd Y v = kc → JW D Y ty ad A s.heap M1 H locs → cells ≤ R.cells ∧ slots ≤ R.slots → decode cc pc = .ok (.areturn, 1) → W p l e R s m args below meth c H locs cells slots Q (F0 m pc ls [.ref (ad v)])) →
      jt_kt p l e R s m args below meth c cc n mc ms Q D Y ty ad A (fun t => Sum.inl t = r) →
      ∀ ls : Array Slot, lv_has ls n (lv_args 0 As) → W p l e R s m args below meth c s.heap [] 0 0 Q (F0 m 0 ls [])) : JTr D Y ty ad sz l y cc n (some (.object cn)) fr lo mc ms As M r kc := by
  refine jt_start hl9 hY hy hn hown (fun p e s m below meth c R h1 h2 h3 h4 hsz hr hlocks C X w kt ls hl => ?_)
  subst hsz
  refine body p e s m below meth c _ R _ _ h1 h2 h3 h4 j_A_ge C X w (fun H locs cells slots ls pc v M1 hv hk w1 hcs hdg => ?_) kt ls hl
  refine vx_ret (j_wid (k := mc) (n := ms) (by rw [← h3]; exact hcs.1) (by rw [← h4]; exact hcs.2) ?_)
  exact W.aret C.1 C.2.1 hr (Or.inl ⟨_, rfl⟩) (Or.inr ⟨_, rfl⟩) (fun t ht hW => ⟨⟨(v, M1), ad v, rfl, ⟨hv, hk⟩, rfl, (j_endP C w1 ht hW).1⟩, (j_endP C w1 ht hW).2⟩) w1.2.2.2.2 hdg
end JTE
section JTC
variable {p : Program} {l : Launch} {e : Env} {R : Room} {s : State} {m : MethodId} {args : Array Value} {below : List Frame} {meth : Method} {c : Code} {H : Heap} {locs : List Loc} {cells slots : Nat} {Q : State → Prop}
variable {cc : ByteArray} {nL pc : Nat} {own : String} {ls : Array Slot} {D : va_G} {Y : JY} {ty : Nat → ClassId} {ad : Nat → Nat} {A : Nat → Prop} {M M' : JM} {o ci N index : Nat} {C : String} {T : u_T}
variable {y : MethodName} {b : ByteArray} {n fr lo mc ms : Nat} {ret : Option FieldType}
theorem jx_in {U : State} (jx : JX A s s.heap) (w : JW D Y ty ad A s.heap M H locs) (hA : ∀ q, s.heap.size ≤ q → A q) (hU : U.heap = H) (hW : s.WarmedH U.vm) : JX (j_A Y ad H.size) U U.heap := by
  rw [hU]
  exact JX.warm hW ((jx.kept w.2.2.2.1).narrow (j_AA w hA))
theorem j_preST (jc : JC D Y ty p s m args c cc nL own) (jx : JX A s s.heap) (w : JW D Y ty ad A s.heap M H locs) (hA : ∀ q, s.heap.size ≤ q → A q) (As : List Value) : PreS s H (va_Pc As (jt_Pre D Y ty ad M H.size)) As :=
  ⟨j_blindT, fun U hU hW => ⟨rfl, ⟨by rw [hU], by rw [hU]; exact w.1, va_K.moved hW.alike jc.2.2.2.2.2.1, w.2.1.weaken (fun _ _ _ _ => trivial)⟩, jx_in jx w hA hU hW⟩⟩
theorem j_preVT (jc : JC D Y ty p s m args c cc nL own) (jx : JX A s s.heap) (w : JW D Y ty ad A s.heap M H locs) (hA : ∀ q, s.heap.size ≤ q → A q) (As : List Value) (ho : j_kd Y o = ci) (hci : ci < 11) (hc : jcl[ci]? = some (C, T, N)) : PreV s H C (ad o) (va_Pc (.ref (ad o) :: As) (jt_Pre D Y ty ad M H.size)) As :=
  ⟨j_blindT, va_recv (q := (C, T, N)) jc.2.2.2.2.2.1 w.1 (ci := ci) (q0 := o) hc (by rw [j_w_get (j_lt ho (by omega)), j_en_obj ho hci]), fun U hU hW => ⟨rfl, ⟨by rw [hU], by rw [hU]; exact w.1, va_K.moved hW.alike jc.2.2.2.2.2.1, w.2.1.weaken (fun _ _ _ _ => trivial)⟩, jx_in jx w hA hU hW⟩⟩
theorem jt_runV {Qc : Array Value → State → Outcome → State → Prop} {XC : String → State → State → Prop} {As rest st0 : List Value} (jc : JC D Y ty p s m args c cc nL own) (jx : JX A s s.heap) (w : JW D Y ty ad A s.heap M H locs) (hA : ∀ q, s.heap.size ≤ q → A q) (ho : j_kd Y o = ci) (hci : ci < 11) (hc : jcl[ci]? = some (C, T, N))
    (hM : vx_Met l y (j_ws y b n ret) (j_rm fr lo mc ms) (va_Pc (.ref (ad o) :: As) (jt_Pre D Y ty ad M H.size)) Qc XC mc ms (j_A Y ad H.size)) (sd : j_sideV own index C y b n ret As.length) (hst : As.reverse ++ .ref (ad o) :: rest = st0) (hls : ls.size = nL) (hR : fr + 1 ≤ R.frames ∧ 8 + (n + 11) + lo ≤ R.locals ∧ cells + mc ≤ R.cells ∧ slots + ms ≤ R.slots) (hr8 : (rest.map fun v => v.category).sum ≤ 8) (hdg : decode cc pc = .ok (.invokevirtual index, 3)) :
    vx_Run p l e R s m args below meth c H locs cells slots mc ms (F0 m pc ls st0) rest (Qc (Value.ref (ad o) :: As).toArray) XC (j_A Y ad H.size) :=
  vx_runV (As := As) (rest := rest) (Ts := jwd) ⟨jc.1, jc.2.1, jc.2.2.1, jc.2.2.2.1, jc.2.2.2.2.1⟩ hM ⟨j_cwB jc.2.2.2.2.1 sd.1.1 sd.1.2.1 sd.1.2.2.1 sd.1.2.2.2 ⟨hR.1, hR.2.1⟩, jc.2.2.2.2.1 _ sd.2.1, jc.2.2.2.2.1 _ sd.2.2⟩ (j_preVT jc jx w hA As ho hci hc) rfl rfl hls hst.symm (lv_room hr8) hdg hR.2.2
theorem jt_runS {Qc : Array Value → State → Outcome → State → Prop} {XC : String → State → State → Prop} {As rest st0 : List Value} (jc : JC D Y ty p s m args c cc nL own) (jx : JX A s s.heap) (w : JW D Y ty ad A s.heap M H locs) (hA : ∀ q, s.heap.size ≤ q → A q)
    (hM : vx_Met l y (j_ws y b n ret) (j_rm fr lo mc ms) (va_Pc As (jt_Pre D Y ty ad M H.size)) Qc XC mc ms (j_A Y ad H.size)) (sd : j_sideS own index y b n ret As.length) (hst : As.reverse ++ rest = st0) (hls : ls.size = nL) (hR : fr + 1 ≤ R.frames ∧ 8 + (n + 11) + lo ≤ R.locals ∧ cells + mc ≤ R.cells ∧ slots + ms ≤ R.slots) (hr8 : (rest.map fun v => v.category).sum ≤ 8) (hdg : decode cc pc = .ok (.invokestatic index, 3)) :
    vx_Run p l e R s m args below meth c H locs cells slots mc ms (F0 m pc ls st0) rest (Qc As.toArray) XC (j_A Y ad H.size) :=
  vx_runS (As := As) (rest := rest) (Ts := jwd) ⟨jc.1, jc.2.1, jc.2.2.1, jc.2.2.2.1, jc.2.2.2.2.1⟩ hM ⟨j_cwB jc.2.2.2.2.1 sd.1.1 sd.1.2.1 sd.1.2.2.1 sd.1.2.2.2 ⟨hR.1, hR.2.1⟩, jc.2.2.2.2.1 _ sd.2⟩ (j_preST jc jx w hA As) rfl rfl hls hst.symm (lv_room hr8) hdg hR.2.2
abbrev jt_kx (p : Program) (l : Launch) (e : Env) (R : Room) (s : State) (m : MethodId) (args : Array Value) (below : List Frame) (meth : Method) (c : Code) (cells slots : Nat) (Q : State → Prop) (g : JFrame) (D : va_G) (Y : JY) (ty : Nat → ClassId) (ad : Nat → Nat) (A : Nat → Prop) (P : Nat × JM → Prop) : Prop :=
  ∀ (H1 : Heap) (locs1 : List Loc) (t : Nat × JM) (ce : Cell) (q9 : Addr), P t → JW D Y ty ad A s.heap t.2 H1 locs1 → H1[q9]? = some ce → ce.vm = .none → s.vm.findClass (jxn t.1) = some ce.cls → vx_W p l e R s m args below meth c H1 locs1 cells slots Q g q9
theorem jx_callr {A0 A1 : Nat → Prop} {H0 : Heap} {a : Array Value} {rest st0 : List Value} {free : Addr → Prop} {S SX : Type} {post : S → Prop} {px : SX → Prop} {B : S → Nat → State → Prop} {BX : String → SX → State → Prop} {AX : Nat → Prop} (hr : vx_Run p l e R s m args below meth c H locs cells slots mc ms (F0 m pc ls st0) rest (va_Qr post B A1 a) (vx_X px BX AX) free) (hS : va_S A0 H0 H locs) (hA : ∀ q, q < H.size → A1 q → A0 q) (hf : ∀ q, free q → A0 q) (hAX : ∀ q, q < H.size → AX q → A0 q)
    (kx : ∀ (E : String) (ce : Cell) (q9 : Addr) (u : SX) (t : State) (H1 : Heap) (locs1 : List Loc), t.heap = H1 → s.vm.Alike t.vm → px u → BX E u t → H.size ≤ H1.size → (∀ q : Nat, q < H.size → ¬ AX q → H1[q]? = H[q]?) → va_S A0 H0 H1 locs1 → H1[q9]? = some ce → ce.vm = .none → s.vm.findClass E = some ce.cls → vx_W p l e R s m args below meth c H1 locs1 (cells + mc) (slots + ms) Q (F0 m pc ls rest) q9)
    (kk : ∀ (u : S) (ra : Nat) (t : State) (H1 : Heap) (locs1 : List Loc), t.heap = H1 → s.vm.Alike t.vm → post u → B u ra t → H.size ≤ H1.size → (∀ q : Nat, q < H.size → ¬ A1 q → H1[q]? = H[q]?) → va_S A0 H0 H1 locs1 → W p l e R s m args below meth c H1 locs1 (cells + mc) (slots + ms) Q (F0 m (pc + 3) ls (.ref ra :: rest))) : W p l e R s m args below meth c H locs cells slots Q (F0 m pc ls st0) := by
  intro T hT X
  rcases hr T hT X with ⟨v, st₀, t, T', L, h0, X', hL, e1, e2, ⟨⟨u, ra, hv, hp, hb⟩, hF⟩, st⟩ | ⟨q, st₀, t, T', L, E, ce, h0, X', hL, e1, e2, ⟨u, hp, hb, hF⟩, hce, hcv, hcl, st⟩
  · cases hv
    obtain ⟨k1, k2, k3⟩ := vx_keep h0 e1 hS hA hf hL hF
    obtain ⟨t2, a1, b1⟩ := kk u ra t T'.heap (locs ++ L) e1.symm (by rw [← e2]; exact X'.warmed.alike) hp hb k1 k2 k3 T' rfl X'
    exact ⟨t2, st t2 a1, b1⟩
  · obtain ⟨k1, k2, k3⟩ := vx_keep h0 e1 hS hAX hf hL hF
    obtain ⟨t2, a1, b1⟩ := kx E ce q u t T'.heap (locs ++ L) e1.symm (by rw [← e2]; exact X'.warmed.alike) hp hb k1 k2 k3 (by rw [e1]; exact hce) hcv hcl T' rfl X'
    exact ⟨t2, st.trans a1, b1⟩
theorem jt_vi {x : Jt (Int32 × JM)} (As rest : List Value) {st0 : List Value} (jc : JC D Y ty p s m args c cc nL own) (jx : JX A s s.heap) (w : JW D Y ty ad A s.heap M H locs) (hA : ∀ q, s.heap.size ≤ q → A q) (ho : j_kd Y o = ci) (hci : ci < 11) (hc : jcl[ci]? = some (C, T, N)) 
    (hM : JTi D Y ty ad H.size l y b n fr lo mc ms (.ref (ad o) :: As) M x) (sd : j_sideV own index C y b n (some .int) As.length) (hst : As.reverse ++ .ref (ad o) :: rest = st0) (hls : ls.size = nL) (hR : fr + 1 ≤ R.frames ∧ 8 + (n + 11) + lo ≤ R.locals ∧ cells + mc ≤ R.cells ∧ slots + ms ≤ R.slots) (hr8 : (rest.map fun v => v.category).sum ≤ 8) (hdg : decode cc pc = .ok (.invokevirtual index, 3))
    (kx : jt_kx p l e R s m args below meth c (cells + mc) (slots + ms) Q (F0 m pc ls rest) D Y ty ad A (fun t => Sum.inl t = x))
    (kk : ∀ (H1 : Heap) (locs1 : List Loc) (u : Int32 × JM), Sum.inr u = x → JW D Y ty ad A s.heap u.2 H1 locs1 → W p l e R s m args below meth c H1 locs1 (cells + mc) (slots + ms) Q (F0 m (pc + 3) ls (.int u.1 :: rest))) : W p l e R s m args below meth c H locs cells slots Q (F0 m pc ls st0) := by
  refine vx_calli (jt_runV jc jx w hA ho hci hc hM sd hst hls hR hr8 hdg) w.2.2 (fun q _ h => j_AA w hA q h) (fun q h => j_AA w hA q h) (fun q _ h => j_AA w hA q h) (fun E ce q9 t T1 H1 locs1 ht hvm hp hB hz hk hS hce hcv hcl => kx H1 locs1 t ce q9 hp (j_back w ht hB.2 hS) hce hcv (by rw [← hB.1]; exact hcl)) (fun r1 u t H1 locs1 ht hvm hw hB hz hk hS => kk H1 locs1 (r1, u) hw (j_back w ht hB hS))
theorem jt_vz {x : Jt (Int32 × JM)} (As rest : List Value) {st0 : List Value} (jc : JC D Y ty p s m args c cc nL own) (jx : JX A s s.heap) (w : JW D Y ty ad A s.heap M H locs) (hA : ∀ q, s.heap.size ≤ q → A q) (ho : j_kd Y o = ci) (hci : ci < 11) (hc : jcl[ci]? = some (C, T, N)) 
    (hM : JTz D Y ty ad H.size l y b n fr lo mc ms (.ref (ad o) :: As) M x) (sd : j_sideV own index C y b n (some .boolean) As.length) (hst : As.reverse ++ .ref (ad o) :: rest = st0) (hls : ls.size = nL) (hR : fr + 1 ≤ R.frames ∧ 8 + (n + 11) + lo ≤ R.locals ∧ cells + mc ≤ R.cells ∧ slots + ms ≤ R.slots) (hr8 : (rest.map fun v => v.category).sum ≤ 8) (hdg : decode cc pc = .ok (.invokevirtual index, 3))
    (kx : jt_kx p l e R s m args below meth c (cells + mc) (slots + ms) Q (F0 m pc ls rest) D Y ty ad A (fun t => Sum.inl t = x))
    (kk : ∀ (H1 : Heap) (locs1 : List Loc) (u : Int32 × JM), Sum.inr u = x → JW D Y ty ad A s.heap u.2 H1 locs1 → (u.1 = 0 ∨ u.1 = 1) → W p l e R s m args below meth c H1 locs1 (cells + mc) (slots + ms) Q (F0 m (pc + 3) ls (.int u.1 :: rest))) : W p l e R s m args below meth c H locs cells slots Q (F0 m pc ls st0) := by
  refine vx_calli (jt_runV jc jx w hA ho hci hc hM sd hst hls hR hr8 hdg) w.2.2 (fun q _ h => j_AA w hA q h) (fun q h => j_AA w hA q h) (fun q _ h => j_AA w hA q h) (fun E ce q9 t T1 H1 locs1 ht hvm hp hB hz hk hS hce hcv hcl => kx H1 locs1 t ce q9 hp (j_back w ht hB.2 hS) hce hcv (by rw [← hB.1]; exact hcl)) (fun r1 u t H1 locs1 ht hvm hw hB hz hk hS => kk H1 locs1 (r1, u) hw.1 (j_back w ht hB hS) hw.2)
theorem jt_vd {x : Jt (UInt64 × JM)} (As rest : List Value) {st0 : List Value} (jc : JC D Y ty p s m args c cc nL own) (jx : JX A s s.heap) (w : JW D Y ty ad A s.heap M H locs) (hA : ∀ q, s.heap.size ≤ q → A q) (ho : j_kd Y o = ci) (hci : ci < 11) (hc : jcl[ci]? = some (C, T, N)) 
    (hM : JTd D Y ty ad H.size l y b n fr lo mc ms (.ref (ad o) :: As) M x) (sd : j_sideV own index C y b n (some .double) As.length) (hst : As.reverse ++ .ref (ad o) :: rest = st0) (hls : ls.size = nL) (hR : fr + 1 ≤ R.frames ∧ 8 + (n + 11) + lo ≤ R.locals ∧ cells + mc ≤ R.cells ∧ slots + ms ≤ R.slots) (hr8 : (rest.map fun v => v.category).sum ≤ 8) (hdg : decode cc pc = .ok (.invokevirtual index, 3))
    (kx : jt_kx p l e R s m args below meth c (cells + mc) (slots + ms) Q (F0 m pc ls rest) D Y ty ad A (fun t => Sum.inl t = x))
    (kk : ∀ (H1 : Heap) (locs1 : List Loc) (u : UInt64 × JM), Sum.inr u = x → JW D Y ty ad A s.heap u.2 H1 locs1 → W p l e R s m args below meth c H1 locs1 (cells + mc) (slots + ms) Q (F0 m (pc + 3) ls (.double u.1 :: rest))) : W p l e R s m args below meth c H locs cells slots Q (F0 m pc ls st0) := by
  refine vx_calld (jt_runV jc jx w hA ho hci hc hM sd hst hls hR hr8 hdg) w.2.2 (fun q _ h => j_AA w hA q h) (fun q h => j_AA w hA q h) (fun q _ h => j_AA w hA q h) (fun E ce q9 t T1 H1 locs1 ht hvm hp hB hz hk hS hce hcv hcl => kx H1 locs1 t ce q9 hp (j_back w ht hB.2 hS) hce hcv (by rw [← hB.1]; exact hcl)) (fun r1 u t H1 locs1 ht hvm hw hB hz hk hS => kk H1 locs1 (r1, u) hw (j_back w ht hB hS))
theorem jt_vv {x : Jt JM} (As rest : List Value) {st0 : List Value} (jc : JC D Y ty p s m args c cc nL own) (jx : JX A s s.heap) (w : JW D Y ty ad A s.heap M H locs) (hA : ∀ q, s.heap.size ≤ q → A q) (ho : j_kd Y o = ci) (hci : ci < 11) (hc : jcl[ci]? = some (C, T, N)) 
    (hM : JTv D Y ty ad H.size l y b n fr lo mc ms (.ref (ad o) :: As) M x) (sd : j_sideV own index C y b n none As.length) (hst : As.reverse ++ .ref (ad o) :: rest = st0) (hls : ls.size = nL) (hR : fr + 1 ≤ R.frames ∧ 8 + (n + 11) + lo ≤ R.locals ∧ cells + mc ≤ R.cells ∧ slots + ms ≤ R.slots) (hr8 : (rest.map fun v => v.category).sum ≤ 8) (hdg : decode cc pc = .ok (.invokevirtual index, 3))
    (kx : jt_kx p l e R s m args below meth c (cells + mc) (slots + ms) Q (F0 m pc ls rest) D Y ty ad A (fun t => Sum.inl t = x))
    (kk : ∀ (H1 : Heap) (locs1 : List Loc) (u : JM), Sum.inr u = x → JW D Y ty ad A s.heap u H1 locs1 → W p l e R s m args below meth c H1 locs1 (cells + mc) (slots + ms) Q (F0 m (pc + 3) ls (rest))) : W p l e R s m args below meth c H locs cells slots Q (F0 m pc ls st0) := by
  refine vx_callv (jt_runV jc jx w hA ho hci hc hM sd hst hls hR hr8 hdg) w.2.2 (fun q _ h => j_AA w hA q h) (fun q h => j_AA w hA q h) (fun q _ h => j_AA w hA q h) (fun E ce q9 t T1 H1 locs1 ht hvm hp hB hz hk hS hce hcv hcl => kx H1 locs1 t ce q9 hp (j_back w ht hB.2 hS) hce hcv (by rw [← hB.1]; exact hcl)) (fun u t H1 locs1 ht hvm hw hB hz hk hS => kk H1 locs1 u hw (j_back w ht hB hS))
theorem jt_vr {x : Jt (Nat × JM)} {kc : Nat} (As rest : List Value) {st0 : List Value} (jc : JC D Y ty p s m args c cc nL own) (jx : JX A s s.heap) (w : JW D Y ty ad A s.heap M H locs) (hA : ∀ q, s.heap.size ≤ q → A q) (ho : j_kd Y o = ci) (hci : ci < 11) (hc : jcl[ci]? = some (C, T, N)) 
    (hM : JTr D Y ty ad H.size l y b n ret fr lo mc ms (.ref (ad o) :: As) M x kc) (sd : j_sideV own index C y b n ret As.length) (hst : As.reverse ++ .ref (ad o) :: rest = st0) (hls : ls.size = nL) (hR : fr + 1 ≤ R.frames ∧ 8 + (n + 11) + lo ≤ R.locals ∧ cells + mc ≤ R.cells ∧ slots + ms ≤ R.slots) (hr8 : (rest.map fun v => v.category).sum ≤ 8) (hdg : decode cc pc = .ok (.invokevirtual index, 3))
    (kx : jt_kx p l e R s m args below meth c (cells + mc) (slots + ms) Q (F0 m pc ls rest) D Y ty ad A (fun t => Sum.inl t = x))
    (kk : ∀ (H1 : Heap) (locs1 : List Loc) (u : Nat × JM), Sum.inr u = x → JW D Y ty ad A s.heap u.2 H1 locs1 → j_kd Y u.1 = kc → W p l e R s m args below meth c H1 locs1 (cells + mc) (slots + ms) Q (F0 m (pc + 3) ls (.ref (ad u.1) :: rest))) : W p l e R s m args below meth c H locs cells slots Q (F0 m pc ls st0) := by
  refine jx_callr (jt_runV jc jx w hA ho hci hc hM sd hst hls hR hr8 hdg) w.2.2 (fun q _ h => j_AA w hA q h) (fun q h => j_AA w hA q h) (fun q _ h => j_AA w hA q h) (fun E ce q9 t T1 H1 locs1 ht hvm hp hB hz hk hS hce hcv hcl => kx H1 locs1 t ce q9 hp (j_back w ht hB.2 hS) hce hcv (by rw [← hB.1]; exact hcl)) (fun u ra t H1 locs1 ht hvm hw hB hz hk hS => ?_)
  obtain ⟨rfl, hB⟩ := hB
  exact kk H1 locs1 u hw.1 (j_back w ht hB hS) hw.2
theorem jt_si {x : Jt (Int32 × JM)} (As rest : List Value) {st0 : List Value} (jc : JC D Y ty p s m args c cc nL own) (jx : JX A s s.heap) (w : JW D Y ty ad A s.heap M H locs) (hA : ∀ q, s.heap.size ≤ q → A q) 
    (hM : JTi D Y ty ad H.size l y b n fr lo mc ms As M x) (sd : j_sideS own index y b n (some .int) As.length) (hst : As.reverse ++ rest = st0) (hls : ls.size = nL) (hR : fr + 1 ≤ R.frames ∧ 8 + (n + 11) + lo ≤ R.locals ∧ cells + mc ≤ R.cells ∧ slots + ms ≤ R.slots) (hr8 : (rest.map fun v => v.category).sum ≤ 8) (hdg : decode cc pc = .ok (.invokestatic index, 3))
    (kx : jt_kx p l e R s m args below meth c (cells + mc) (slots + ms) Q (F0 m pc ls rest) D Y ty ad A (fun t => Sum.inl t = x))
    (kk : ∀ (H1 : Heap) (locs1 : List Loc) (u : Int32 × JM), Sum.inr u = x → JW D Y ty ad A s.heap u.2 H1 locs1 → W p l e R s m args below meth c H1 locs1 (cells + mc) (slots + ms) Q (F0 m (pc + 3) ls (.int u.1 :: rest))) : W p l e R s m args below meth c H locs cells slots Q (F0 m pc ls st0) := by
  refine vx_calli (jt_runS jc jx w hA hM sd hst hls hR hr8 hdg) w.2.2 (fun q _ h => j_AA w hA q h) (fun q h => j_AA w hA q h) (fun q _ h => j_AA w hA q h) (fun E ce q9 t T1 H1 locs1 ht hvm hp hB hz hk hS hce hcv hcl => kx H1 locs1 t ce q9 hp (j_back w ht hB.2 hS) hce hcv (by rw [← hB.1]; exact hcl)) (fun r1 u t H1 locs1 ht hvm hw hB hz hk hS => kk H1 locs1 (r1, u) hw (j_back w ht hB hS))
theorem jt_sv {x : Jt JM} (As rest : List Value) {st0 : List Value} (jc : JC D Y ty p s m args c cc nL own) (jx : JX A s s.heap) (w : JW D Y ty ad A s.heap M H locs) (hA : ∀ q, s.heap.size ≤ q → A q) 
    (hM : JTv D Y ty ad H.size l y b n fr lo mc ms As M x) (sd : j_sideS own index y b n none As.length) (hst : As.reverse ++ rest = st0) (hls : ls.size = nL) (hR : fr + 1 ≤ R.frames ∧ 8 + (n + 11) + lo ≤ R.locals ∧ cells + mc ≤ R.cells ∧ slots + ms ≤ R.slots) (hr8 : (rest.map fun v => v.category).sum ≤ 8) (hdg : decode cc pc = .ok (.invokestatic index, 3))
    (kx : jt_kx p l e R s m args below meth c (cells + mc) (slots + ms) Q (F0 m pc ls rest) D Y ty ad A (fun t => Sum.inl t = x))
    (kk : ∀ (H1 : Heap) (locs1 : List Loc) (u : JM), Sum.inr u = x → JW D Y ty ad A s.heap u H1 locs1 → W p l e R s m args below meth c H1 locs1 (cells + mc) (slots + ms) Q (F0 m (pc + 3) ls (rest))) : W p l e R s m args below meth c H locs cells slots Q (F0 m pc ls st0) := by
  refine vx_callv (jt_runS jc jx w hA hM sd hst hls hR hr8 hdg) w.2.2 (fun q _ h => j_AA w hA q h) (fun q h => j_AA w hA q h) (fun q _ h => j_AA w hA q h) (fun E ce q9 t T1 H1 locs1 ht hvm hp hB hz hk hS hce hcv hcl => kx H1 locs1 t ce q9 hp (j_back w ht hB.2 hS) hce hcv (by rw [← hB.1]; exact hcl)) (fun u t H1 locs1 ht hvm hw hB hz hk hS => kk H1 locs1 u hw (j_back w ht hB hS))
end JTC
theorem j_hRT {R : Room} {F L K S fr lo n a b mc ms : Nat} (hf : R.frames = F) (hl : R.locals = L) (hc : R.cells = K) (hs : R.slots = S) (h1 : Nat.ble (fr + 1) F = true) (h2 : Nat.ble (8 + (n + 11) + lo) L = true) (h3 : Nat.ble (a + mc) K = true) (h4 : Nat.ble (b + ms) S = true) : fr + 1 ≤ R.frames ∧ 8 + (n + 11) + lo ≤ R.locals ∧ a + mc ≤ R.cells ∧ b + ms ≤ R.slots :=
  ⟨by rw [hf]; exact Nat.le_of_ble_eq_true h1, by rw [hl]; exact Nat.le_of_ble_eq_true h2, by rw [hc]; exact Nat.le_of_ble_eq_true h3, by rw [hs]; exact Nat.le_of_ble_eq_true h4⟩
theorem j_cs {R : Room} {K S a b : Nat} (hc : R.cells = K) (hs : R.slots = S) (h3 : Nat.ble a K = true) (h4 : Nat.ble b S = true) : a ≤ R.cells ∧ b ≤ R.slots := ⟨by rw [hc]; exact Nat.le_of_ble_eq_true h3, by rw [hs]; exact Nat.le_of_ble_eq_true h4⟩
theorem j_hRN {R : Room} {F L K S a b : Nat} (hf : R.frames = F) (hl : R.locals = L) (hc : R.cells = K) (hs : R.slots = S) (h1 : Nat.ble 6 F = true) (h2 : Nat.ble 90 L = true) (h3 : Nat.ble (a + 1) K = true) (h4 : Nat.ble (b + 6) S = true) : 6 ≤ R.frames ∧ 90 ≤ R.locals ∧ a + 1 ≤ R.cells ∧ b + 6 ≤ R.slots :=
  ⟨by rw [hf]; exact Nat.le_of_ble_eq_true h1, by rw [hl]; exact Nat.le_of_ble_eq_true h2, by rw [hc]; exact Nat.le_of_ble_eq_true h3, by rw [hs]; exact Nat.le_of_ble_eq_true h4⟩
section JMD
variable {D : va_G} {Y : JY} {ty : Nat → ClassId} {ad : Nat → Nat} {sz : Nat} {l : Launch} {y : MethodName} {cc : ByteArray} {n fr lo : Nat} {As : List Value} {M : JM}
def JMd (D : va_G) (Y : JY) (ty : Nat → ClassId) (ad : Nat → Nat) (sz : Nat) (l : Launch) (y : MethodName) (cc : ByteArray) (n : Nat) (fr lo : Nat) (As : List Value) (M : JM) (r : UInt64) (M' : JM) : Prop :=
  Met l y (j_ws y cc n (some .double)) (j_rm fr lo 0 0) (va_Pc As (j_Pre D Y ty ad M sz)) (va_Qd (fun (v : UInt64) (u : JM) => v = r ∧ u = M') (j_Po D Y ty ad (j_A Y ad sz)) (j_A Y ad sz)) 0 0 (j_A Y ad sz)
theorem j_ofD {r : UInt64} {M' : JM} (hY : j_ok Y) (hy : plainName y.cls = true) (hn : (lg_sl As).length ≤ n)
    (body : ∀ (p : Program) (e : Env) (s : State) (m : MethodId) (below : List Frame) (meth : Method) (c : Code) (args : Array Value) (R : Room) (Q : State → Prop) (A : Nat → Prop), R.frames = fr → R.locals = lo → (∀ q, s.heap.size ≤ q → A q) → JC D Y ty p s m args c cc n y.cls → JW D Y ty ad A s.heap M s.heap [] →
      (∀ (H : Heap) (locs : List Loc) (ls : Array Slot) (pc : Nat) (v : UInt64) (M1 : JM), v = r → M1 = M' → JW D Y ty ad A s.heap M1 H locs → decode cc pc = .ok (.dreturn, 1) → W p l e R s m args below meth c H locs 0 0 Q (F0 m pc ls [.double v])) →
      ∀ ls : Array Slot, lv_has ls n (lv_args 0 As) → W p l e R s m args below meth c s.heap [] 0 0 Q (F0 m 0 ls [])) : JMd D Y ty ad sz l y cc n fr lo As M r M' := by
  refine j_start hY hy hn (fun p e s m below meth c R h1 h2 h3 h4 hsz hr hlocks C w ls hl => ?_)
  subst hsz
  refine body p e s m below meth c _ R _ _ h1 h2 j_A_ge C w (fun H locs ls pc v M1 hv hM w1 hdg => ?_) ls hl
  subst hv; subst hM
  exact W.dret C.1 C.2.1 hr (fun t ht hW => ⟨⟨v, M1, rfl, ⟨rfl, rfl⟩, (j_endP C w1 ht hW).1⟩, (j_endP C w1 ht hW).2⟩) w1.2.2.2.2 hdg
end JMD
section JCD
variable {p : Program} {l : Launch} {e : Env} {R : Room} {s : State} {m : MethodId} {args : Array Value} {below : List Frame} {meth : Method} {c : Code} {H : Heap} {locs : List Loc} {cells slots : Nat} {Q : State → Prop}
variable {cc : ByteArray} {nL pc : Nat} {own : String} {ls : Array Slot} {D : va_G} {Y : JY} {ty : Nat → ClassId} {ad : Nat → Nat} {A : Nat → Prop} {M M' : JM} {o ci N index : Nat} {C : String} {T : u_T}
variable {y : MethodName} {b : ByteArray} {n fr lo mc ms : Nat} {ret : Option FieldType}
theorem jc_vd {r : UInt64} (As rest : List Value) {st0 : List Value} (jc : JC D Y ty p s m args c cc nL own) (w : JW D Y ty ad A s.heap M H locs) (hA : ∀ q, s.heap.size ≤ q → A q) (ho : j_kd Y o = ci) (hci : ci < 11) (hc : jcl[ci]? = some (C, T, N))
    (hM : JMd D Y ty ad H.size l y b n fr lo (.ref (ad o) :: As) M r M') (sd : j_sideV own index C y b n (some .double) As.length) (hst : As.reverse ++ .ref (ad o) :: rest = st0) (hls : ls.size = nL) (hR : fr + 1 ≤ R.frames ∧ 8 + (n + 11) + lo ≤ R.locals ∧ cells + 0 ≤ R.cells ∧ slots + 0 ≤ R.slots) (hr8 : (rest.map fun v => v.category).sum ≤ 8) (hdg : decode cc pc = .ok (.invokevirtual index, 3))
    (kk : ∀ (H1 : Heap) (locs1 : List Loc), JW D Y ty ad A s.heap M' H1 locs1 → W p l e R s m args below meth c H1 locs1 cells slots Q (F0 m (pc + 3) ls (.double r :: rest))) : W p l e R s m args below meth c H locs cells slots Q (F0 m pc ls st0) := by
  refine va_calld (j_runV jc w ho hci hc hM sd hst hls hR hr8 hdg) w.2.2 (fun q _ h => j_AA w hA q h) (fun q h => j_AA w hA q h) (fun r1 u t H1 locs1 ht hvm hw hB hz hk hS => ?_)
  obtain ⟨rfl, rfl⟩ := hw
  exact kk H1 locs1 (j_back w ht hB hS)
end JCD

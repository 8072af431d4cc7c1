/-! ===== constructors: the objects of a tree come one behind another ===== -/
/-- what no list of words may hand on -/
def j_X (U : State) : Prop := va_AO RX4 U ∧ va_Nw (.methodLinkNest RX9 30 yX3_init RX9) U ∧ va_Nw (.methodLinkNest RX9 51 yX1_init RX9) U ∧ va_Nw (.methodLinkNest RX9 58 yX5_init RX9) U ∧ va_Nw (.methodLinkNest RX9 65 yX6_init RX9) U
theorem j_X.moved {s U : State} (hW : s.WarmedH U.vm) (h : j_X s) : j_X U := ⟨h.1.moved hW.alike, h.2.1.warmM hW, h.2.2.1.warmM hW, h.2.2.2.1.warmM hW, h.2.2.2.2.warmM hW⟩
/-- a constructor's beginning: the object with its fields as they are born -/
def j_Pn (D : va_G) (ty : Nat → ClassId) (c a : Nat) (fs : List Value) (sz : Nat) : State → Prop := fun U => U.heap.size = sz ∧ va_P D jcl [(a, .inr (c, fs))] U.heap ∧ va_K D jcl (j_tys ty) U ∧ j_X U
def j_B (a sz : Nat) : Nat → Prop := fun q => q = a ∨ sz ≤ q
theorem j_blindN {D : va_G} {ty : Nat → ClassId} {c a : Nat} {fs : List Value} {sz : Nat} {As : List Value} : FrameBlind (va_Pc As (j_Pn D ty c a fs sz)) := by
  intro b U g mk q
  obtain ⟨q0, q1, qP, qK, qX⟩ := q
  exact ⟨q0, q1, qP, va_K.moved (u := U) (U := U.calling g mk b) (Vm.Alike.refl U.vm) qK, j_X.moved (s := U) (U := U.calling g mk b) (State.WarmedH.refl U) qX⟩
/-- what a constructor leaves: a tree of layout Ys with numbers Ms, its root where it stood -/
def JN (D : va_G) (ty : Nat → ClassId) (l : Launch) (y : MethodName) (cc : ByteArray) (n fr lo mc ms c a sz : Nat) (fs As : List Value) (Ys : JY) (Ms : JM) : Prop :=
  Met l y (j_ws y cc n none) (j_rm fr lo mc ms) (va_Pc (.ref a :: As) (j_Pn D ty c a fs sz)) (va_Qv (fun ad : Nat → Nat => ad 0 = a) (fun ad t => va_P D jcl (j_w Ys ty ad Ms) t.heap ∧ va_K D jcl (j_tys ty) t ∧ va_D (j_B a sz) (j_w Ys ty ad Ms)) (j_B a sz)) mc ms (j_B a sz)
/-- what a body knows, and the state of its walk: a list of objects -/
abbrev JNC (D : va_G) (ty : Nat → ClassId) (p : Program) (s : State) (m : MethodId) (args : Array Value) (c : Code) (cc : ByteArray) (nL : Nat) (own : String) : Prop :=
  p.tables.exec = Jvm.exec ∧ c.code = cc ∧ c.maxLocals = nL ∧ s.vm.findClass own = some m.cls ∧ (∀ w ∈ jwd, w.before args s = true) ∧ va_K D jcl (j_tys ty) s ∧ j_X s
def JNW (D : va_G) (A : Nat → Prop) (H0 : Heap) (ws : va_W) (H : Heap) (locs : List Loc) : Prop := va_P D jcl ws H ∧ va_D A ws ∧ va_S A H0 H locs
section JNEW
variable {p : Program} {l : Launch} {e : Env} {R : Room} {s : State} {m : MethodId} {args : Array Value} {below : List Frame} {meth : Method} {c : Code} {H : Heap} {locs : List Loc} {cells slots : Nat} {Q : State → Prop}
variable {cc : ByteArray} {nL pc : Nat} {own : String} {ls : Array Slot} {rest : List Value} {D : va_G} {ty : Nat → ClassId} {A : Nat → Prop} {ws : va_W} {index : Nat}
theorem jn_of {y : MethodName} {n fr lo mc ms c0 a sz ix : Nat} {fs As : List Value} {Ys : JY} {Ms : JM} (hy : plainName y.cls = true) (hy2 : y.name = "<init>") (hn : (lg_sl (.ref a :: As)).length ≤ n) (hd0 : decode cc 0 = .ok (.aload_n 0, 1)) (hd1 : decode cc 1 = .ok (.invokespecial ix, 3)) (hlk : Cond.methodLink y.cls ix objectInit ∈ jwd) (hfr : 1 ≤ fr) (hlo : 12 ≤ lo)
    (body : ∀ (p : Program) (e : Env) (s : State) (m : MethodId) (below : List Frame) (meth : Method) (c : Code) (args : Array Value) (R : Room) (Q : State → Prop) (A : Nat → Prop), R.frames = fr → R.locals = lo → R.cells = mc → R.slots = ms → meth.name = "<init>" → JNC D ty p s m args c cc n y.cls → (∀ q, s.heap.size ≤ q → A q) → JNW D A s.heap [(a, .inr (c0, fs))] s.heap [] →
      (∀ (H : Heap) (locs : List Loc) (ls : Array Slot) (pc cells slots : Nat) (ad : Nat → Nat), ad 0 = a → JNW D A s.heap (j_w Ys ty ad Ms) H locs → cells = mc → slots = ms → decode cc pc = .ok (.return_, 1) → W p l e R s m args below meth c H locs cells slots Q (F0 m pc ls [])) →
      ∀ ls : Array Slot, lv_has ls n (lv_args 0 (.ref a :: As)) → W p l e R s m args below meth c s.heap [] 0 0 Q (F0 m 4 ls [])) : JN D ty l y cc n fr lo mc ms c0 a sz fs As Ys Ms := by
  refine Met.ofW (cc := cc) (maxL := n) (ret := none) hy rfl ?_
  intro p e s m args below meth c s₁ B hml hv
  obtain ⟨rfl, hsz, hP, hK, hX⟩ := hv
  subst hsz
  have hts := atoms_spec (ws := j_ws y cc n none) B.pre
  have htw : ∀ w ∈ jwd, w.before (Value.ref a :: As).toArray s = true := fun w h => hts w (List.mem_cons_of_mem _ h)
  have hown : s.vm.findClass y.cls = some m.cls := findClass_of_methodNamed B.named
  have hin : meth.name = "<init>" := (name_of_methodNamed B.named B.method).1.trans hy2
  have hl := lv_entry (.ref a :: As) (n := n) hn
  rw [lg_entry_eq]
  generalize (lg_sl (.ref a :: As) ++ List.replicate (n - (lg_sl (.ref a :: As)).length) Slot.unset).toArray = ls at hl ⊢
  have hD : va_D (j_B a s.heap.size) [((a, .inr (c0, fs)) : Nat × va_E)] := ⟨fun i j x y hi hj _ => by
    have h1 := (List.getElem?_eq_some_iff.mp hi).1
    have h2 := (List.getElem?_eq_some_iff.mp hj).1
    simp at h1 h2
    omega, fun k q hk => by
    have h1 := List.mem_of_getElem? hk
    rw [List.mem_singleton.mp h1]
    exact Or.inl rfl⟩
  refine lv_aload_n B.exec B.bytes hd0 rfl (lv_at hl 0 rfl) ?_
  refine W.objInit B.exec B.bytes hown (htw _ hlk) (htw _ wd_1_55) (htw _ wd_1_56) rfl (by rw [hml]; exact hl.1) rfl hd1 hfr hlo ?_
  refine W.eq (g2 := F0 m 4 ls []) rfl ?_
  refine body p e s m below meth c _ _ _ (j_B a s.heap.size) rfl rfl rfl rfl hin ⟨B.exec, B.bytes, hml, hown, htw, hK, hX⟩ (fun q h => Or.inr h) ⟨hP, hD, va_S.rf⟩ (fun H locs ls pc cells slots ad h0 w hc hs hdg => ?_) ls hl
  subst hc; subst hs
  exact W.vret B.exec B.bytes B.returns (fun t ht hW => ⟨⟨ad, rfl, h0, by rw [ht]; exact w.1, va_K.moved hW.alike hK, w.2.1⟩, w.2.2.F ht⟩) w.2.2.2.2 hdg
end JNEW

/-! ===== memory by object number: a static layout, one function for all numbers ===== -/
abbrev JM : Type := Nat → Nat → Int32
def j_up (M : JM) (o k : Nat) (v : Int32) : JM := fun a b => if a = o ∧ b = k then v else M a b
/-- layout: the kind of each object, its references, the lengths of arrays -/
abbrev JY : Type := List Nat × (Nat → Nat → Nat) × (Nat → Nat)
def j_kd (Y : JY) (o : Nat) : Nat := Y.1.getD o 999
def j_rf (Y : JY) (o k : Nat) : Nat := Y.2.1 o k
def j_ln (Y : JY) (o : Nat) : Nat := Y.2.2 o
def j_z (x : Int32) : Int32 := if x = 0 then 0 else 1
theorem j_z01 (x : Int32) : j_z x = 0 ∨ j_z x = 1 := by unfold j_z; split <;> simp
theorem j_z_id {x : Int32} (h : x = 0 ∨ x = 1) : j_z x = x := by rcases h with rfl | rfl <;> rfl
/-- kinds of fields, class by class: below 100 a reference to an object of that class, 100 an int row, 101 a boolean row, 102 a char row, 103 a row of Lines, 200 an int, 201 a boolean -/
def j_ft : List (List Nat) := [
  [4, 4, 4, 4, 8, 200, 200],
  [4, 4, 0, 8, 4, 8, 4, 4, 201],
  [7, 4, 200, 200],
  [4, 4],
  [100, 200],
  [4, 4, 4, 0, 0, 8, 4, 4, 201],
  [4, 4, 8, 8, 8, 4, 200, 200, 201],
  [103, 4],
  [100, 200, 200],
  [7, 7, 2, 3, 4, 0, 1, 5, 6, 200, 200, 201, 201]]
def j_fl (c : Nat) : List Nat := j_ft.getD c []
def j_fk (c k : Nat) : Nat := (j_fl c).getD k 999
abbrev jcl : List vw_C := [(RX0, TX0, 7), (RX1, TX1, 9), (RX2, TX2, 4), (RX3, TX3, 2), (RX4, TX4, 2), (RX5, TX5, 9), (RX6, TX6, 9), (RX7, TX7, 2), (RX8, TX8, 3), (RX9, TX9, 13)]
abbrev j_tys (ty : Nat → ClassId) : List (ClassId × FieldType) := [(ty 0, .int), (ty 1, .boolean), (ty 2, .char), (ty 3, .object RX4)]
def j_fv (Y : JY) (ad : Nat → Nat) (M : JM) (o k f : Nat) : Value := if f < 200 then .ref (ad (j_rf Y o k)) else if f = 201 then .int (j_z (M o k)) else .int (M o k)
def j_fs (Y : JY) (ad : Nat → Nat) (M : JM) (o c : Nat) : List Value := (j_fl c).mapIdx (fun k f => j_fv Y ad M o k f)
/-- a double, by two ints -/
def j_d (a b : Int32) : UInt64 := UInt64.ofNat (a.toUInt32.toNat * 4294967296 + b.toUInt32.toNat)
def j_dh (w : UInt64) : Int32 := (UInt32.ofNat (w.toNat / 4294967296)).toInt32
def j_dl (w : UInt64) : Int32 := (UInt32.ofNat (w.toNat % 4294967296)).toInt32
theorem j_d_of (w : UInt64) : j_d (j_dh w) (j_dl w) = w := by
  have h := w.toNat_lt
  have n1 : (UInt32.ofNat (w.toNat / 4294967296)).toNat = w.toNat / 4294967296 := UInt32.toNat_ofNat_of_lt' (by
    have e : UInt32.size = 4294967296 := rfl
    rw [e]
    omega)
  have n2 : (UInt32.ofNat (w.toNat % 4294967296)).toNat = w.toNat % 4294967296 := UInt32.toNat_ofNat_of_lt' (by
    have e : UInt32.size = 4294967296 := rfl
    rw [e]
    omega)
  unfold j_d j_dh j_dl
  rw [UInt32.toUInt32_toInt32, UInt32.toUInt32_toInt32, n1, n2]
  have h2 : w.toNat / 4294967296 * 4294967296 + w.toNat % 4294967296 = w.toNat := by omega
  rw [h2]
  exact UInt64.ofNat_toNat
def j_en (Y : JY) (ty : Nat → ClassId) (ad : Nat → Nat) (M : JM) (o : Nat) : va_E :=
  if j_kd Y o = 100 then .inl (ty 0, j_ln Y o, .inl (M o))
  else if j_kd Y o = 101 then .inl (ty 1, j_ln Y o, .inl (M o))
  else if j_kd Y o = 102 then .inl (ty 2, j_ln Y o, .inl (M o))
  else if j_kd Y o = 103 then .inl (ty 3, j_ln Y o, .inr (.inr (.inr (.inr (fun i => some (ad (j_rf Y o i)))))))
  else if j_kd Y o = 104 then .inl (ty 4, j_ln Y o, .inr (.inl (fun i => (M o i).toInt64)))
  else if j_kd Y o = 105 then .inl (ty 5, j_ln Y o, .inr (.inr (.inr (.inl (fun i => j_d (M o (2 * i)) (M o (2 * i + 1)))))))
  else .inr (j_kd Y o, j_fs Y ad M o (j_kd Y o))
def j_w (Y : JY) (ty : Nat → ClassId) (ad : Nat → Nat) (M : JM) : va_W := (List.range Y.1.length).map (fun o => (ad o, j_en Y ty ad M o))
theorem j_lt {Y : JY} {o c : Nat} (h : j_kd Y o = c) (hc : c < 999) : o < Y.1.length := by
  rcases Nat.lt_or_ge o Y.1.length with q | q
  · exact q
  · exfalso
    have : j_kd Y o = 999 := by unfold j_kd; simp [List.getD, List.getElem?_eq_none q]
    omega
theorem j_w_get {Y : JY} {ty : Nat → ClassId} {ad : Nat → Nat} {M : JM} {o : Nat} (h : o < Y.1.length) : (j_w Y ty ad M)[o]? = some (ad o, j_en Y ty ad M o) := by
  simp [j_w, h]
theorem j_w_set {Y : JY} {ty : Nat → ClassId} {ad : Nat → Nat} {M M' : JM} {o : Nat} {e : va_E} (h0 : e = j_en Y ty ad M' o) (h : ∀ o', o' ≠ o → j_en Y ty ad M' o' = j_en Y ty ad M o') : (j_w Y ty ad M).set o (ad o, e) = j_w Y ty ad M' := by
  subst h0
  apply List.ext_getElem?
  intro i
  by_cases hi : i < Y.1.length
  · by_cases hio : i = o
    · subst hio
      rw [j_w_get hi, List.getElem?_set_self (by simp [j_w]; exact hi)]
    · rw [List.getElem?_set_ne (Ne.symm hio), j_w_get hi, j_w_get hi, h i hio]
  · rw [List.getElem?_eq_none (by simp [j_w]; omega), List.getElem?_eq_none (by simp [j_w]; omega)]
theorem j_en_ne {Y : JY} {ty : Nat → ClassId} {ad : Nat → Nat} {M : JM} {o k : Nat} {v : Int32} : ∀ o', o' ≠ o → j_en Y ty ad (j_up M o k v) o' = j_en Y ty ad M o' := by
  intro o' h
  have h1 : j_up M o k v o' = M o' := by funext b; simp [j_up, h]
  have h2 : ∀ c, j_fs Y ad (j_up M o k v) o' c = j_fs Y ad M o' c := by
    intro c
    unfold j_fs j_fv
    rw [h1]
  unfold j_en
  rw [h1, h2]
theorem j_up_row (M : JM) (o k : Nat) (v : Int32) : j_up M o k v o = upd (M o) k v := by
  funext b
  by_cases h : b = k <;> simp [j_up, upd, h]
/-- the layout is well formed: references lead where the fields say; rows are not too long -/
def j_ok (Y : JY) : Prop := (∀ o, o < Y.1.length → ∀ k, k < 64 → j_fk (j_kd Y o) k < 200 → j_kd Y (j_rf Y o k) = j_fk (j_kd Y o) k) ∧ (∀ o, o < Y.1.length → j_kd Y o = 103 → ∀ i, i < j_ln Y o → j_kd Y (j_rf Y o i) = 4) ∧ (∀ o, o < Y.1.length → j_ln Y o < 1000000 ∧ (j_kd Y o < 11 ∨ j_kd Y o = 100 ∨ j_kd Y o = 101 ∨ j_kd Y o = 102 ∨ j_kd Y o = 103 ∨ j_kd Y o = 104 ∨ j_kd Y o = 105))
theorem j_sub {Y : JY} (hY : j_ok Y) {o c : Nat} (ho : j_kd Y o = c) (k : Nat) {f : Nat} (hf : j_fk c k = f) (hk : k < 64) (hf2 : f < 200) (hc : c < 999) : j_kd Y (j_rf Y o k) = f := by
  subst ho
  subst hf
  exact hY.1 o (j_lt rfl hc) k hk hf2
theorem j_el {Y : JY} (hY : j_ok Y) {o : Nat} (ho : j_kd Y o = 103) {i : Nat} (hi : i < j_ln Y o) : j_kd Y (j_rf Y o i) = 4 := hY.2.1 o (j_lt ho (by decide)) ho i hi
theorem j_lnlt {Y : JY} (hY : j_ok Y) {o : Nat} (ho : o < Y.1.length) : j_ln Y o < 1000000 := (hY.2.2 o ho).1
theorem j_in {Y : JY} (hY : j_ok Y) {o c : Nat} (ho : j_kd Y o = c) (hc : c < 999) {i : Int32} (h0 : ¬ i < 0) (h1 : i < Int32.ofNat (j_ln Y o)) : vp_in i (j_ln Y o) := by
  have hl := j_lnlt hY (j_lt ho hc)
  rw [vp_in_iff]
  have e1 : (Int32.ofNat (j_ln Y o)).toInt = (j_ln Y o : Int) := nI_toInt (by omega)
  rw [Int32.lt_iff_toInt_lt] at h1 h0
  have e2 : (0 : Int32).toInt = 0 := rfl
  rw [e1] at h1
  rw [e2] at h0
  omega
/-- how a place of a row is guarded -/
abbrev j_g (i : Int32) (n : Nat) : Prop := ¬ i < 0 ∧ i.toNatClampNeg < n
theorem j_g_in {i : Int32} {n : Nat} (h : j_g i n) : vp_in i n := fun q => q.elim (fun a => h.1 a) (fun a => absurd h.2 (Nat.not_lt.mpr a))
/-- the state of a walk: memory M stands at the heap; what else was there is unchanged -/
def JW (D : va_G) (Y : JY) (ty : Nat → ClassId) (ad : Nat → Nat) (A : Nat → Prop) (H0 : Heap) (M : JM) (H : Heap) (locs : List Loc) : Prop :=
  va_P D jcl (j_w Y ty ad M) H ∧ va_D A (j_w Y ty ad M) ∧ va_S A H0 H locs
/-- what a body knows of its frame -/
abbrev JC (D : va_G) (Y : JY) (ty : Nat → ClassId) (p : Program) (s : State) (m : MethodId) (args : Array Value) (c : Code) (cc : ByteArray) (nL : Nat) (own : String) : Prop :=
  p.tables.exec = Jvm.exec ∧ c.code = cc ∧ c.maxLocals = nL ∧ s.vm.findClass own = some m.cls ∧ (∀ w ∈ jwd, w.before args s = true) ∧ va_K D jcl (j_tys ty) s ∧ j_ok Y
def j_A (Y : JY) (ad : Nat → Nat) (sz : Nat) : Nat → Prop := fun q => (∃ o, o < Y.1.length ∧ q = ad o) ∨ sz ≤ q
theorem j_A_ge {Y : JY} {ad : Nat → Nat} {sz : Nat} : ∀ q, sz ≤ q → j_A Y ad sz q := fun _ h => Or.inr h
theorem j_A_mono {Y : JY} {ad : Nat → Nat} {a b : Nat} (h : a ≤ b) : ∀ q, j_A Y ad b q → j_A Y ad a q := fun _ q => q.elim (fun z => Or.inl z) (fun z => Or.inr (Nat.le_trans h z))
theorem j_w_D {Y : JY} {ty : Nat → ClassId} {ad : Nat → Nat} {M M' : JM} {A B : Nat → Prop} (h : va_D A (j_w Y ty ad M)) (hA : ∀ o, o < Y.1.length → B (ad o)) : va_D B (j_w Y ty ad M') := by
  have key : ∀ (M : JM) (i : Nat) (x : Nat × va_E), (j_w Y ty ad M)[i]? = some x → i < Y.1.length ∧ x.1 = ad i := by
    intro M i x hx
    by_cases hi : i < Y.1.length
    · rw [j_w_get hi] at hx
      cases hx
      exact ⟨hi, rfl⟩
    · rw [List.getElem?_eq_none (by simp [j_w]; omega)] at hx
      cases hx
  refine ⟨fun i j x y hi hj hxy => ?_, fun k q hk => ?_⟩
  · obtain ⟨h1, e1⟩ := key M' i x hi
    obtain ⟨h2, e2⟩ := key M' j y hj
    exact h.1 i j _ _ (j_w_get h1) (j_w_get h2) (by show ad i = ad j; rw [← e1, ← e2]; exact hxy)
  · obtain ⟨h1, e1⟩ := key M' k q hk
    rw [e1]
    exact hA k h1
theorem j_D_A {Y : JY} {ty : Nat → ClassId} {ad : Nat → Nat} {M : JM} {A : Nat → Prop} (h : va_D A (j_w Y ty ad M)) {o : Nat} (ho : o < Y.1.length) : A (ad o) := h.2 o _ (j_w_get ho)
theorem j_D_inj {Y : JY} {ty : Nat → ClassId} {ad : Nat → Nat} {M : JM} {A : Nat → Prop} (h : va_D A (j_w Y ty ad M)) {a b : Nat} (ha : a < Y.1.length) (hb : b < Y.1.length) (e : ad a = ad b) : a = b := h.1 a b _ _ (j_w_get ha) (j_w_get hb) e
def j_Pre (D : va_G) (Y : JY) (ty : Nat → ClassId) (ad : Nat → Nat) (M : JM) (sz : Nat) : State → Prop := fun U => U.heap.size = sz ∧ va_P D jcl (j_w Y ty ad M) U.heap ∧ va_K D jcl (j_tys ty) U ∧ va_D (fun _ => True) (j_w Y ty ad M)
def j_Po (D : va_G) (Y : JY) (ty : Nat → ClassId) (ad : Nat → Nat) (A : Nat → Prop) (u : JM) (t : State) : Prop := va_P D jcl (j_w Y ty ad u) t.heap ∧ va_K D jcl (j_tys ty) t ∧ va_D A (j_w Y ty ad u)
theorem j_blind {D : va_G} {Y : JY} {ty : Nat → ClassId} {ad : Nat → Nat} {M : JM} {sz : Nat} {As : List Value} : FrameBlind (va_Pc As (j_Pre D Y ty ad M sz)) := by
  intro a U g mk q
  obtain ⟨q0, q1, qP, qK, qD⟩ := q
  exact ⟨q0, q1, qP, va_K.moved (u := U) (U := U.calling g mk a) (Vm.Alike.refl U.vm) qK, qD⟩
/-- contracts: an int, nothing, an object -/
abbrev j_ws (y : MethodName) (cc : ByteArray) (n : Nat) (ret : Option FieldType) : List Cond := .code y cc n ret :: jwd
abbrev j_rm (fr lo mc ms : Nat) : Room := { frames := fr, cells := mc, slots := ms, locals := lo }
def JMi (D : va_G) (Y : JY) (ty : Nat → ClassId) (ad : Nat → Nat) (sz : Nat) (l : Launch) (y : MethodName) (cc : ByteArray) (n : Nat) (ret : Option FieldType) (fr lo : Nat) (As : List Value) (M : JM) (r : Int32) (M' : JM) : Prop :=
  Met l y (j_ws y cc n ret) (j_rm fr lo 0 0) (va_Pc As (j_Pre D Y ty ad M sz)) (va_Qi (fun (v : Int32) (u : JM) => v = r ∧ u = M') (j_Po D Y ty ad (j_A Y ad sz)) (j_A Y ad sz)) 0 0 (j_A Y ad sz)
def JMv (D : va_G) (Y : JY) (ty : Nat → ClassId) (ad : Nat → Nat) (sz : Nat) (l : Launch) (y : MethodName) (cc : ByteArray) (n : Nat) (fr lo : Nat) (As : List Value) (M : JM) (M' : JM) : Prop :=
  Met l y (j_ws y cc n none) (j_rm fr lo 0 0) (va_Pc As (j_Pre D Y ty ad M sz)) (va_Qv (fun (u : JM) => u = M') (j_Po D Y ty ad (j_A Y ad sz)) (j_A Y ad sz)) 0 0 (j_A Y ad sz)
def JMr (D : va_G) (Y : JY) (ty : Nat → ClassId) (ad : Nat → Nat) (sz : Nat) (l : Launch) (y : MethodName) (cc : ByteArray) (n : Nat) (ret : Option FieldType) (fr lo : Nat) (As : List Value) (M : JM) (r : Nat) (M' : JM) (kc : Nat) : Prop :=
  Met l y (j_ws y cc n ret) (j_rm fr lo 0 0) (va_Pc As (j_Pre D Y ty ad M sz)) (va_Qr (fun (u : JM) => u = M' ∧ j_kd Y r = kc) (fun (u : JM) (a : Nat) (t : State) => a = ad r ∧ j_Po D Y ty ad (j_A Y ad sz) u t) (j_A Y ad sz)) 0 0 (j_A Y ad sz)
def JMz (D : va_G) (Y : JY) (ty : Nat → ClassId) (ad : Nat → Nat) (sz : Nat) (l : Launch) (y : MethodName) (cc : ByteArray) (n fr lo : Nat) (As : List Value) (M : JM) (r : Int32) (M' : JM) : Prop :=
  Met l y (j_ws y cc n (some .boolean)) (j_rm fr lo 0 0) (va_Pc As (j_Pre D Y ty ad M sz)) (va_Qi (fun (v : Int32) (u : JM) => v = r ∧ u = M' ∧ (r = 0 ∨ r = 1)) (j_Po D Y ty ad (j_A Y ad sz)) (j_A Y ad sz)) 0 0 (j_A Y ad sz)
theorem j_good : GoodIn jwd jwd := fun _ h => ⟨h, good_of_word (List.mem_filter.mp h).2⟩
section JENT
variable {D : va_G} {Y : JY} {ty : Nat → ClassId} {ad : Nat → Nat} {sz : Nat} {l : Launch} {y : MethodName} {cc : ByteArray} {n fr lo : Nat} {As : List Value} {M : JM}
/-- a body's start, for all kinds of answers -/
theorem j_start {ret : Option FieldType} {Qc : Array Value → State → Outcome → State → Prop} {mc ms : Nat} (hY : j_ok Y) (hy : plainName y.cls = true) (hn : (lg_sl As).length ≤ n)
    (body : ∀ (p : Program) (e : Env) (s : State) (m : MethodId) (below : List Frame) (meth : Method) (c : Code) (R : Room), R.frames = fr → R.locals = lo → R.cells = mc → R.slots = ms → s.heap.size = sz → meth.sig.returnType = ret → meth.locks = false →
      JC D Y ty p s m As.toArray c cc n y.cls → JW D Y ty ad (j_A Y ad sz) s.heap M s.heap [] → ∀ ls : Array Slot, lv_has ls n (lv_args 0 As) → W p l e R s m As.toArray below meth c s.heap [] 0 0 (MQ below Qc As.toArray s mc ms (j_A Y ad sz)) (F0 m 0 ls [])) :
    Met l y (j_ws y cc n ret) (j_rm fr lo mc ms) (va_Pc As (j_Pre D Y ty ad M sz)) Qc mc ms (j_A Y ad sz) := by
  refine Met.ofW (cc := cc) (maxL := n) (ret := ret) hy rfl ?_
  intro p e s m args below meth c s₁ B hml hv
  obtain ⟨rfl, hsz, hP, hK, hD0⟩ := hv
  have hts := atoms_spec (ws := j_ws y cc n ret) B.pre
  have hown : s.vm.findClass y.cls = some m.cls := findClass_of_methodNamed B.named
  have hl := lv_entry As (n := n) hn
  rw [lg_entry_eq]
  refine body p e s m below meth c _ rfl rfl rfl rfl hsz B.returns B.notSynchronized ⟨B.exec, B.bytes, hml, hown, fun w h => hts w (List.mem_cons_of_mem _ h), hK, hY⟩ ⟨hP, j_w_D hD0 (fun o ho => Or.inl ⟨o, ho, rfl⟩), ?_⟩ _ hl
  exact va_S.rf
theorem j_endP {A : Nat → Prop} {p : Program} {s : State} {m : MethodId} {args : Array Value} {c : Code} {own : String} {M1 : JM} {H : Heap} {locs : List Loc} {t : State} (C : JC D Y ty p s m args c cc n own) (w : JW D Y ty ad A s.heap M1 H locs) (ht : t.heap = H) (hW : s.WarmedH t.vm) : j_Po D Y ty ad A M1 t ∧ va_F A s t :=
  ⟨⟨by rw [ht]; exact w.1, va_K.moved hW.alike C.2.2.2.2.2.1, w.2.1⟩, w.2.2.F ht⟩
theorem j_ofI {r : Int32} {M' : JM} (hY : j_ok Y) (hy : plainName y.cls = true) (hn : (lg_sl As).length ≤ n)
    (body : ∀ (p : Program) (e : Env) (s : State) (m : MethodId) (below : List Frame) (meth : Method) (c : Code) (args : Array Value) (R : Room) (Q : State → Prop) (A : Nat → Prop), R.frames = fr → R.locals = lo → (∀ q, s.heap.size ≤ q → A q) → JC D Y ty p s m args c cc n y.cls → JW D Y ty ad A s.heap M s.heap [] →
      (∀ (H : Heap) (locs : List Loc) (ls : Array Slot) (pc : Nat) (v : Int32) (M1 : JM), v = r → M1 = M' → JW D Y ty ad A s.heap M1 H locs → decode cc pc = .ok (.ireturn, 1) → W p l e R s m args below meth c H locs 0 0 Q (F0 m pc ls [.int v])) →
      ∀ ls : Array Slot, lv_has ls n (lv_args 0 As) → W p l e R s m args below meth c s.heap [] 0 0 Q (F0 m 0 ls [])) : JMi D Y ty ad sz l y cc n (some .int) fr lo As M r M' := by
  refine j_start hY hy hn (fun p e s m below meth c R h1 h2 h3 h4 hsz hr hlocks C w ls hl => ?_)
  subst hsz
  refine body p e s m below meth c _ R _ _ h1 h2 j_A_ge C w (fun H locs ls pc v M1 hv hM w1 hdg => ?_) ls hl
  subst hv; subst hM
  exact W.iret C.1 C.2.1 hr (fun t ht hW => ⟨⟨v, M1, rfl, ⟨rfl, rfl⟩, (j_endP C w1 ht hW).1⟩, (j_endP C w1 ht hW).2⟩) w1.2.2.2.2 hdg
theorem j_ofZ {r : Int32} {M' : JM} (hY : j_ok Y) (hy : plainName y.cls = true) (hn : (lg_sl As).length ≤ n)
    (body : ∀ (p : Program) (e : Env) (s : State) (m : MethodId) (below : List Frame) (meth : Method) (c : Code) (args : Array Value) (R : Room) (Q : State → Prop) (A : Nat → Prop), R.frames = fr → R.locals = lo → (∀ q, s.heap.size ≤ q → A q) → JC D Y ty p s m args c cc n y.cls → JW D Y ty ad A s.heap M s.heap [] →
      (∀ (H : Heap) (locs : List Loc) (ls : Array Slot) (pc : Nat) (v : Int32) (M1 : JM), v = r → M1 = M' → (v = 0 ∨ v = 1) → JW D Y ty ad A s.heap M1 H locs → decode cc pc = .ok (.ireturn, 1) → W p l e R s m args below meth c H locs 0 0 Q (F0 m pc ls [.int v])) →
      ∀ ls : Array Slot, lv_has ls n (lv_args 0 As) → W p l e R s m args below meth c s.heap [] 0 0 Q (F0 m 0 ls [])) : JMz D Y ty ad sz l y cc n fr lo As M r M' := by
  refine j_start hY hy hn (fun p e s m below meth c R h1 h2 h3 h4 hsz hr hlocks C w ls hl => ?_)
  subst hsz
  refine body p e s m below meth c _ R _ _ h1 h2 j_A_ge C w (fun H locs ls pc v M1 hv hM hz w1 hdg => ?_) ls hl
  subst hv; subst hM
  refine W.zret C.1 C.2.1 hr (by rcases hz with h | h <;> subst h <;> rfl) (fun t ht hW => ⟨⟨v, M1, rfl, ⟨rfl, rfl, hz⟩, (j_endP C w1 ht hW).1⟩, (j_endP C w1 ht hW).2⟩) w1.2.2.2.2 hdg
theorem j_ofV {M' : JM} (hY : j_ok Y) (hy : plainName y.cls = true) (hn : (lg_sl As).length ≤ n)
    (body : ∀ (p : Program) (e : Env) (s : State) (m : MethodId) (below : List Frame) (meth : Method) (c : Code) (args : Array Value) (R : Room) (Q : State → Prop) (A : Nat → Prop), R.frames = fr → R.locals = lo → (∀ q, s.heap.size ≤ q → A q) → JC D Y ty p s m args c cc n y.cls → JW D Y ty ad A s.heap M s.heap [] →
      (∀ (H : Heap) (locs : List Loc) (ls : Array Slot) (pc : Nat) (M1 : JM), M1 = M' → JW D Y ty ad A s.heap M1 H locs → decode cc pc = .ok (.return_, 1) → W p l e R s m args below meth c H locs 0 0 Q (F0 m pc ls [])) →
      ∀ ls : Array Slot, lv_has ls n (lv_args 0 As) → W p l e R s m args below meth c s.heap [] 0 0 Q (F0 m 0 ls [])) : JMv D Y ty ad sz l y cc n fr lo As M M' := by
  refine j_start hY hy hn (fun p e s m below meth c R h1 h2 h3 h4 hsz hr hlocks C w ls hl => ?_)
  subst hsz
  refine body p e s m below meth c _ R _ _ h1 h2 j_A_ge C w (fun H locs ls pc M1 hM w1 hdg => ?_) ls hl
  subst hM
  exact W.vret C.1 C.2.1 hr (fun t ht hW => ⟨⟨M1, rfl, rfl, (j_endP C w1 ht hW).1⟩, (j_endP C w1 ht hW).2⟩) w1.2.2.2.2 hdg
theorem j_ofR {cn : String} {r kc : Nat} {M' : JM} (hY : j_ok Y) (hy : plainName y.cls = true) (hn : (lg_sl As).length ≤ n)
    (body : ∀ (p : Program) (e : Env) (s : State) (m : MethodId) (below : List Frame) (meth : Method) (c : Code) (args : Array Value) (R : Room) (Q : State → Prop) (A : Nat → Prop), R.frames = fr → R.locals = lo → (∀ q, s.heap.size ≤ q → A q) → JC D Y ty p s m args c cc n y.cls → JW D Y ty ad A s.heap M s.heap [] →
      (∀ (H : Heap) (locs : List Loc) (ls : Array Slot) (pc : Nat) (v : Nat) (M1 : JM), v = r → M1 = M' → j_kd Y v = kc → JW D Y ty ad A s.heap M1 H locs → decode cc pc = .ok (.areturn, 1) → W p l e R s m args below meth c H locs 0 0 Q (F0 m pc ls [.ref (ad v)])) →
      ∀ ls : Array Slot, lv_has ls n (lv_args 0 As) → W p l e R s m args below meth c s.heap [] 0 0 Q (F0 m 0 ls [])) : JMr D Y ty ad sz l y cc n (some (.object cn)) fr lo As M r M' kc := by
  refine j_start hY hy hn (fun p e s m below meth c R h1 h2 h3 h4 hsz hr hlocks C w ls hl => ?_)
  subst hsz
  refine body p e s m below meth c _ R _ _ h1 h2 j_A_ge C w (fun H locs ls pc v M1 hv hM hk w1 hdg => ?_) ls hl
  subst hv; subst hM
  exact W.aret C.1 C.2.1 hr (Or.inl ⟨_, rfl⟩) (Or.inr ⟨_, rfl⟩) (fun t ht hW => ⟨⟨M1, ad v, rfl, ⟨rfl, hk⟩, rfl, (j_endP C w1 ht hW).1⟩, (j_endP C w1 ht hW).2⟩) w1.2.2.2.2 hdg
end JENT
theorem j_en_obj {Y : JY} {ty : Nat → ClassId} {ad : Nat → Nat} {M : JM} {o c : Nat} (h : j_kd Y o = c) (hc : c < 11) : j_en Y ty ad M o = .inr (c, j_fs Y ad M o c) := by
  unfold j_en
  rw [h, if_neg (by omega), if_neg (by omega), if_neg (by omega), if_neg (by omega), if_neg (by omega), if_neg (by omega)]
theorem j_en_i {Y : JY} {ty : Nat → ClassId} {ad : Nat → Nat} {M : JM} {o : Nat} (h : j_kd Y o = 100) : j_en Y ty ad M o = .inl (ty 0, j_ln Y o, .inl (M o)) := by
  unfold j_en
  rw [if_pos h]
theorem j_en_z {Y : JY} {ty : Nat → ClassId} {ad : Nat → Nat} {M : JM} {o : Nat} (h : j_kd Y o = 101) : j_en Y ty ad M o = .inl (ty 1, j_ln Y o, .inl (M o)) := by
  unfold j_en
  rw [if_neg (by omega), if_pos h]
theorem j_en_c {Y : JY} {ty : Nat → ClassId} {ad : Nat → Nat} {M : JM} {o : Nat} (h : j_kd Y o = 102) : j_en Y ty ad M o = .inl (ty 2, j_ln Y o, .inl (M o)) := by
  unfold j_en
  rw [if_neg (by omega), if_neg (by omega), if_pos h]
theorem j_en_q {Y : JY} {ty : Nat → ClassId} {ad : Nat → Nat} {M : JM} {o : Nat} (h : j_kd Y o = 103) : j_en Y ty ad M o = .inl (ty 3, j_ln Y o, .inr (.inr (.inr (.inr (fun i => some (ad (j_rf Y o i))))))) := by
  unfold j_en
  rw [if_neg (by omega), if_neg (by omega), if_neg (by omega), if_pos h]
theorem j_en_l {Y : JY} {ty : Nat → ClassId} {ad : Nat → Nat} {M : JM} {o : Nat} (h : j_kd Y o = 104) : j_en Y ty ad M o = .inl (ty 4, j_ln Y o, .inr (.inl (fun i => (M o i).toInt64))) := by
  unfold j_en
  rw [if_neg (by omega), if_neg (by omega), if_neg (by omega), if_neg (by omega), if_pos h]
theorem j_en_d {Y : JY} {ty : Nat → ClassId} {ad : Nat → Nat} {M : JM} {o : Nat} (h : j_kd Y o = 105) : j_en Y ty ad M o = .inl (ty 5, j_ln Y o, .inr (.inr (.inr (.inl (fun i => j_d (M o (2 * i)) (M o (2 * i + 1))))))) := by
  unfold j_en
  rw [if_neg (by omega), if_neg (by omega), if_neg (by omega), if_neg (by omega), if_neg (by omega), if_pos h]
theorem j_up_rowL (M : JM) (o k : Nat) (v : Int32) : (fun i => (j_up M o k v o i).toInt64) = vp_updL (fun i => (M o i).toInt64) k v.toInt64 := by
  funext b
  by_cases h : b = k <;> simp [j_up, vp_updL, h]
def j_upd (M : JM) (o k : Nat) (w : UInt64) : JM := j_up (j_up M o (2 * k) (j_dh w)) o (2 * k + 1) (j_dl w)
theorem j_up_rowD (M : JM) (o k : Nat) (w : UInt64) : (fun i => j_d (j_upd M o k w o (2 * i)) (j_upd M o k w o (2 * i + 1))) = vf_upd (fun i => j_d (M o (2 * i)) (M o (2 * i + 1))) k w := by
  funext b
  by_cases h : b = k
  · subst h
    have e1 : j_upd M o b w o (2 * b) = j_dh w := by
      unfold j_upd j_up
      rw [if_neg (by omega), if_pos ⟨rfl, rfl⟩]
    have e2 : j_upd M o b w o (2 * b + 1) = j_dl w := by
      unfold j_upd j_up
      rw [if_pos ⟨rfl, rfl⟩]
    show j_d _ _ = _
    rw [e1, e2, j_d_of]
    simp [vf_upd]
  · have e1 : j_upd M o k w o (2 * b) = M o (2 * b) := by
      unfold j_upd j_up
      rw [if_neg (by omega), if_neg (by omega)]
    have e2 : j_upd M o k w o (2 * b + 1) = M o (2 * b + 1) := by
      unfold j_upd j_up
      rw [if_neg (by omega), if_neg (by omega)]
    show j_d _ _ = _
    rw [e1, e2]
    simp [vf_upd, h]
theorem j_fl_at {c k f : Nat} (h : j_fk c k = f) (hf : f < 999) : (j_fl c)[k]? = some f := by
  unfold j_fk at h
  rw [List.getD_eq_getElem?_getD] at h
  cases hx : (j_fl c)[k]? with
  | none => rw [hx] at h; simp at h; omega
  | some y => rw [hx] at h; simp at h; rw [h]
theorem j_fs_at {Y : JY} {ad : Nat → Nat} {M : JM} {o c k f : Nat} (h : j_fk c k = f) (hf : f < 999) : (j_fs Y ad M o c)[k]? = some (j_fv Y ad M o k f) := by
  unfold j_fs
  rw [List.getElem?_mapIdx, j_fl_at h hf]
  rfl
theorem j_fs_set {Y : JY} {ad : Nat → Nat} {M : JM} {o c k f : Nat} {v : Int32} (h : j_fk c k = f) (hf : f < 999) : (j_fs Y ad M o c).set k (j_fv Y ad (j_up M o k v) o k f) = j_fs Y ad (j_up M o k v) o c := by
  apply List.ext_getElem?
  intro i
  by_cases hi : i = k
  · subst hi
    have h1 := j_fs_at (Y := Y) (ad := ad) (M := M) (o := o) h hf
    rw [List.getElem?_set_self (List.getElem?_eq_some_iff.mp h1).1, j_fs_at h hf]
  · rw [List.getElem?_set_ne (Ne.symm hi)]
    unfold j_fs
    rw [List.getElem?_mapIdx, List.getElem?_mapIdx]
    cases (j_fl c)[i]? with
    | none => rfl
    | some y =>
      show some _ = some _
      have e : j_up M o k v o i = M o i := by simp [j_up, hi]
      unfold j_fv
      rw [e]
theorem j_fs_len {Y : JY} {ad : Nat → Nat} {M : JM} {o c k f : Nat} (h : j_fk c k = f) (hf : f < 999) : k < (j_fs Y ad M o c).length := (List.getElem?_eq_some_iff.mp (j_fs_at (Y := Y) (ad := ad) (M := M) (o := o) h hf)).1
section JROW
variable {p : Program} {l : Launch} {e : Env} {R : Room} {s : State} {m : MethodId} {args : Array Value} {below : List Frame} {meth : Method} {c : Code} {H : Heap} {locs : List Loc} {cells slots : Nat} {Q : State → Prop}
variable {cc : ByteArray} {nL pc : Nat} {own : String} {ls : Array Slot} {rest : List Value} {D : va_G} {Y : JY} {ty : Nat → ClassId} {ad : Nat → Nat} {A : Nat → Prop} {M : JM} {o ci N index k : Nat} {C : String} {T : u_T}
theorem jr_get {f : Nat} (jc : JC D Y ty p s m args c cc nL own) (w : JW D Y ty ad A s.heap M H locs) (ho : j_kd Y o = ci) (hci : ci < 11) (hc : jcl[ci]? = some (C, T, N)) (hin : ∀ x ∈ u_ws C T N, x ∈ jwd) (hk : k < N) (hf : j_fk ci k = f) (hf2 : f < 999)
    (hl : Cond.fieldLink own index (T k).1 (T k).2.1 (T k).2.2.1 ∈ jwd) (hdg : decode cc pc = .ok (.getfield index, 3)) {v : Value} (hv : j_fv Y ad M o k f = v)
    (kk : W p l e R s m args below meth c H locs cells slots Q (F0 m (pc + 3) ls (v :: rest))) : W p l e R s m args below meth c H locs cells slots Q (F0 m pc ls (.ref (ad o) :: rest)) := by
  subst hv
  exact va_get (D := D) (cl := jcl) (tys := j_tys ty) (ci := ci) (C := C) (T := T) (N := N) jc.1 jc.2.1 jc.2.2.2.2.1 hin jc.2.2.2.1 jc.2.2.2.2.2.1 w.1 o (by rw [j_w_get (j_lt ho (by omega)), j_en_obj ho hci]) hc k hk (jc.2.2.2.2.1 _ hl) (fun _ h => h) (j_fs_at hf hf2) hdg kk
theorem jr_put {f : Nat} (jc : JC D Y ty p s m args c cc nL own) (w : JW D Y ty ad A s.heap M H locs) (ho : j_kd Y o = ci) (hci : ci < 11) (hc : jcl[ci]? = some (C, T, N)) (hin : ∀ x ∈ u_ws C T N, x ∈ jwd) (hk : k < N) (hf : j_fk ci k = f) (hf2 : f < 999)
    (ty0 : Nat → FieldType) (hty : ∀ k, k < N → parseFieldDescriptor (T k).2.2.1 = some (ty0 k)) (hnm : ∀ a, a < N → ∀ b, b < N → a ≠ b → (T a).2.1 ≠ (T b).2.1) (hfin : (T k).2.2.2 = false)
    (hl : Cond.fieldLink own index (T k).1 (T k).2.1 (T k).2.2.1 ∈ jwd) (hdg : decode cc pc = .ok (.putfield index, 3)) {x : Int32} {v : Value} (hv : j_fv Y ad (j_up M o k x) o k f = v) (hn : narrow (ty0 k) v = v) (hfit : fits (ty0 k) v = true)
    (kk : ∀ (H1 : Heap) (locs1 : List Loc), JW D Y ty ad A s.heap (j_up M o k x) H1 locs1 → W p l e R s m args below meth c H1 locs1 cells slots Q (F0 m (pc + 3) ls rest)) : W p l e R s m args below meth c H locs cells slots Q (F0 m pc ls (v :: .ref (ad o) :: rest)) := by
  have h0 := j_lt ho (by omega)
  subst hv
  refine va_put (D := D) (cl := jcl) (tys := j_tys ty) (ci := ci) (C := C) (T := T) (N := N) (fs := j_fs Y ad M o ci) (ty := ty0 k) jc.1 jc.2.1 jc.2.2.2.2.1 hin ty0 hty hnm jc.2.2.2.1 jc.2.2.2.2.2.1 w.1 w.2.1 w.2.2 o (by rw [j_w_get h0, j_en_obj ho hci]) hc k hk (jc.2.2.2.2.1 _ hl) (fun _ h => h) hfin (hty k hk) hn hfit (j_fs_len hf hf2) hdg (fun H1 locs1 hP hD hS => kk H1 locs1 ?_)
  have e1 : (j_w Y ty ad M).set o (ad o, .inr (ci, (j_fs Y ad M o ci).set k (j_fv Y ad (j_up M o k x) o k f))) = j_w Y ty ad (j_up M o k x) :=
    j_w_set (by rw [j_fs_set hf hf2, j_en_obj ho hci]) j_en_ne
  rw [e1] at hP hD
  exact ⟨hP, hD, hS⟩
theorem jr_iald (jc : JC D Y ty p s m args c cc nL own) (w : JW D Y ty ad A s.heap M H locs) (ho : j_kd Y o = 100) {i : Int32} (hi : vp_in i (j_ln Y o)) (hdg : decode cc pc = .ok (.iaload, 1))
    (kk : W p l e R s m args below meth c H locs cells slots Q (F0 m (pc + 1) ls (.int (M o i.toNatClampNeg) :: rest))) : W p l e R s m args below meth c H locs cells slots Q (F0 m pc ls (.int i :: .ref (ad o) :: rest)) :=
  va_iald (D := D) (cl := jcl) (tys := j_tys ty) jc.1 jc.2.1 jc.2.2.2.2.2.1 w.1 o 0 (by rw [j_w_get (j_lt ho (by omega)), j_en_i ho]) rfl hi hdg kk
theorem jr_zald (jc : JC D Y ty p s m args c cc nL own) (w : JW D Y ty ad A s.heap M H locs) (ho : j_kd Y o = 101) {i : Int32} (hi : vp_in i (j_ln Y o)) (hdg : decode cc pc = .ok (.baload, 1))
    (kk : W p l e R s m args below meth c H locs cells slots Q (F0 m (pc + 1) ls (.int (M o i.toNatClampNeg) :: rest))) : W p l e R s m args below meth c H locs cells slots Q (F0 m pc ls (.int i :: .ref (ad o) :: rest)) :=
  va_zald (D := D) (cl := jcl) (tys := j_tys ty) jc.1 jc.2.1 jc.2.2.2.2.2.1 w.1 o 1 (by rw [j_w_get (j_lt ho (by omega)), j_en_z ho]) rfl hi hdg kk
theorem jr_cald (jc : JC D Y ty p s m args c cc nL own) (w : JW D Y ty ad A s.heap M H locs) (ho : j_kd Y o = 102) {i : Int32} (hi : vp_in i (j_ln Y o)) (hdg : decode cc pc = .ok (.caload, 1))
    (kk : W p l e R s m args below meth c H locs cells slots Q (F0 m (pc + 1) ls (.int (M o i.toNatClampNeg) :: rest))) : W p l e R s m args below meth c H locs cells slots Q (F0 m pc ls (.int i :: .ref (ad o) :: rest)) :=
  va_cald (D := D) (cl := jcl) (tys := j_tys ty) jc.1 jc.2.1 jc.2.2.2.2.2.1 w.1 o 2 (by rw [j_w_get (j_lt ho (by omega)), j_en_c ho]) rfl hi hdg kk
theorem jr_aald (jc : JC D Y ty p s m args c cc nL own) (w : JW D Y ty ad A s.heap M H locs) (ho : j_kd Y o = 103) {i : Int32} (hi : vp_in i (j_ln Y o)) (hdg : decode cc pc = .ok (.aaload, 1))
    (kk : W p l e R s m args below meth c H locs cells slots Q (F0 m (pc + 1) ls (.ref (ad (j_rf Y o i.toNatClampNeg)) :: rest))) : W p l e R s m args below meth c H locs cells slots Q (F0 m pc ls (.int i :: .ref (ad o) :: rest)) :=
  va_aldq (D := D) (cl := jcl) (tys := j_tys ty) (f := fun i => some (ad (j_rf Y o i))) jc.1 jc.2.1 jc.2.2.2.2.2.1 w.1 o 3 (by rw [j_w_get (j_lt ho (by omega)), j_en_q ho]) rfl hi hdg kk
theorem jr_alen (jc : JC D Y ty p s m args c cc nL own) (w : JW D Y ty ad A s.heap M H locs) (ho : j_kd Y o = 100 ∨ j_kd Y o = 103) (hdg : decode cc pc = .ok (.arraylength, 1))
    (kk : W p l e R s m args below meth c H locs cells slots Q (F0 m (pc + 1) ls (.int (Int32.ofNat (j_ln Y o)) :: rest))) : W p l e R s m args below meth c H locs cells slots Q (F0 m pc ls (.ref (ad o) :: rest)) := by
  rcases ho with ho | ho
  · exact va_alen (D := D) (cl := jcl) (tys := j_tys ty) (x := (j_ln Y o, .inl (M o))) jc.1 jc.2.1 jc.2.2.2.2.2.1 w.1 o 0 (by rw [j_w_get (j_lt ho (by omega)), j_en_i ho]) rfl rfl hdg kk
  · exact va_alen (D := D) (cl := jcl) (tys := j_tys ty) (x := (j_ln Y o, .inr (.inr (.inr (.inr (fun i => some (ad (j_rf Y o i)))))))) jc.1 jc.2.1 jc.2.2.2.2.2.1 w.1 o 3 (by rw [j_w_get (j_lt ho (by omega)), j_en_q ho]) rfl rfl hdg kk
theorem jr_alenc (jc : JC D Y ty p s m args c cc nL own) (w : JW D Y ty ad A s.heap M H locs) (ho : j_kd Y o = 102) (hdg : decode cc pc = .ok (.arraylength, 1))
    (kk : W p l e R s m args below meth c H locs cells slots Q (F0 m (pc + 1) ls (.int (Int32.ofNat (j_ln Y o)) :: rest))) : W p l e R s m args below meth c H locs cells slots Q (F0 m pc ls (.ref (ad o) :: rest)) :=
  va_alen (D := D) (cl := jcl) (tys := j_tys ty) (x := (j_ln Y o, .inl (M o))) jc.1 jc.2.1 jc.2.2.2.2.2.1 w.1 o 2 (by rw [j_w_get (j_lt ho (by omega)), j_en_c ho]) rfl rfl hdg kk
theorem jr_iast (jc : JC D Y ty p s m args c cc nL own) (w : JW D Y ty ad A s.heap M H locs) (ho : j_kd Y o = 100) {i x : Int32} (hi : vp_in i (j_ln Y o)) (hdg : decode cc pc = .ok (.iastore, 1))
    (kk : ∀ (H1 : Heap) (locs1 : List Loc), JW D Y ty ad A s.heap (j_up M o i.toNatClampNeg x) H1 locs1 → W p l e R s m args below meth c H1 locs1 cells slots Q (F0 m (pc + 1) ls rest)) : W p l e R s m args below meth c H locs cells slots Q (F0 m pc ls (.int x :: .int i :: .ref (ad o) :: rest)) := by
  refine va_iast (D := D) (cl := jcl) (tys := j_tys ty) (n := j_ln Y o) (f := M o) jc.1 jc.2.1 jc.2.2.2.2.2.1 w.1 w.2.1 w.2.2 o 0 (by rw [j_w_get (j_lt ho (by omega)), j_en_i ho]) rfl hi hdg (fun H1 locs1 hP hD hS => kk H1 locs1 ?_)
  have e1 : (j_w Y ty ad M).set o (ad o, .inl (ty 0, j_ln Y o, .inl (upd (M o) i.toNatClampNeg x))) = j_w Y ty ad (j_up M o i.toNatClampNeg x) :=
    j_w_set (by rw [j_en_i ho, j_up_row]) j_en_ne
  rw [e1] at hP hD
  exact ⟨hP, hD, hS⟩
theorem jr_zast (jc : JC D Y ty p s m args c cc nL own) (w : JW D Y ty ad A s.heap M H locs) (ho : j_kd Y o = 101) {i x : Int32} (hx : vp_nar .boolean x = x) (hi : vp_in i (j_ln Y o)) (hdg : decode cc pc = .ok (.bastore, 1))
    (kk : ∀ (H1 : Heap) (locs1 : List Loc), JW D Y ty ad A s.heap (j_up M o i.toNatClampNeg x) H1 locs1 → W p l e R s m args below meth c H1 locs1 cells slots Q (F0 m (pc + 1) ls rest)) : W p l e R s m args below meth c H locs cells slots Q (F0 m pc ls (.int x :: .int i :: .ref (ad o) :: rest)) := by
  refine va_zast (D := D) (cl := jcl) (tys := j_tys ty) (n := j_ln Y o) (f := M o) jc.1 jc.2.1 jc.2.2.2.2.2.1 w.1 w.2.1 w.2.2 o 1 (by rw [j_w_get (j_lt ho (by omega)), j_en_z ho]) rfl hi hdg (fun H1 locs1 hP hD hS => kk H1 locs1 ?_)
  rw [hx] at hP hD
  have e1 : (j_w Y ty ad M).set o (ad o, .inl (ty 1, j_ln Y o, .inl (upd (M o) i.toNatClampNeg x))) = j_w Y ty ad (j_up M o i.toNatClampNeg x) :=
    j_w_set (by rw [j_en_z ho, j_up_row]) j_en_ne
  rw [e1] at hP hD
  exact ⟨hP, hD, hS⟩
theorem jr_cast (jc : JC D Y ty p s m args c cc nL own) (w : JW D Y ty ad A s.heap M H locs) (ho : j_kd Y o = 102) {i x : Int32} (hi : vp_in i (j_ln Y o)) (hdg : decode cc pc = .ok (.castore, 1))
    (kk : ∀ (H1 : Heap) (locs1 : List Loc), JW D Y ty ad A s.heap (j_up M o i.toNatClampNeg (vp_nar .char x)) H1 locs1 → W p l e R s m args below meth c H1 locs1 cells slots Q (F0 m (pc + 1) ls rest)) : W p l e R s m args below meth c H locs cells slots Q (F0 m pc ls (.int x :: .int i :: .ref (ad o) :: rest)) := by
  refine va_cast (D := D) (cl := jcl) (tys := j_tys ty) (n := j_ln Y o) (f := M o) jc.1 jc.2.1 jc.2.2.2.2.2.1 w.1 w.2.1 w.2.2 o 2 (by rw [j_w_get (j_lt ho (by omega)), j_en_c ho]) rfl hi hdg (fun H1 locs1 hP hD hS => kk H1 locs1 ?_)
  have e1 : (j_w Y ty ad M).set o (ad o, .inl (ty 2, j_ln Y o, .inl (upd (M o) i.toNatClampNeg (vp_nar .char x)))) = j_w Y ty ad (j_up M o i.toNatClampNeg (vp_nar .char x)) :=
    j_w_set (by rw [j_en_c ho, j_up_row]) j_en_ne
  rw [e1] at hP hD
  exact ⟨hP, hD, hS⟩
theorem jr_acmp_ne (jc : JC D Y ty p s m args c cc nL own) (w : JW D Y ty ad A s.heap M H locs) {a b ka kb : Nat} (ha : j_kd Y a = ka) (hka : ka < 999) (hb : j_kd Y b = kb) (hkb : kb < 999) {off : Int} {tgt : Nat} (hdg : decode cc pc = .ok (.if_acmp .ne off, 3)) (ht : (pc : Int) + off = (tgt : Int))
    (kt : ¬ a = b → W p l e R s m args below meth c H locs cells slots Q (F0 m tgt ls rest)) (kf : a = b → W p l e R s m args below meth c H locs cells slots Q (F0 m (pc + 3) ls rest)) : W p l e R s m args below meth c H locs cells slots Q (F0 m pc ls (.ref (ad b) :: .ref (ad a) :: rest)) :=
  lv_acmp_ne (rx := some (ad a)) (ry := some (ad b)) jc.1 jc.2.1 hdg ht (fun h => kt (fun z => h (by rw [z]))) (fun h => kf (j_D_inj w.2.1 (j_lt ha hka) (j_lt hb hkb) (Option.some.inj h)))
end JROW
theorem j_goodc {y : MethodName} {b : ByteArray} {n : Nat} {ret : Option FieldType} (h : Cond.code y b n ret ∈ jwd) : GoodIn jwd (j_ws y b n ret) := fun w hw => (List.mem_cons.mp hw).elim (fun e => by subst e; exact ⟨h, Or.inl rfl⟩) (fun h => j_good w h)
theorem j_cwB {R : Room} {s : State} {args : Array Value} {own : String} {index : Nat} {y : MethodName} {b : ByteArray} {n fr lo mc ms k : Nat} {ret : Option FieldType} (hts : ∀ w ∈ jwd, w.before args s = true) (hcode : Cond.code y b n ret ∈ jwd) (hini : Cond.initialized y.cls ∈ jwd) (hl : Cond.methodLink own index y ∈ jwd)
    (hd : y.cls ≠ "java/lang/invoke/MethodHandle" ∧ y.cls ≠ "java/lang/invoke/VarHandle" ∧ (parseMethodDescriptor y.desc).map (fun d => d.parameters.length) = some k) (hR : fr + 1 ≤ R.frames ∧ 8 + (n + 11) + lo ≤ R.locals) : CallB R s args own index y b n ret (j_ws y b n ret) (j_rm fr lo mc ms) mc ms k :=
  callB_of k hts (j_goodc hcode) rfl rfl rfl (hts _ hini) (hts _ hl) hd hR
section JCALL
variable {p : Program} {l : Launch} {e : Env} {R : Room} {s : State} {m : MethodId} {args : Array Value} {below : List Frame} {meth : Method} {c : Code} {H : Heap} {locs : List Loc} {cells slots : Nat} {Q : State → Prop}
variable {cc : ByteArray} {nL pc : Nat} {own : String} {ls : Array Slot} {D : va_G} {Y : JY} {ty : Nat → ClassId} {ad : Nat → Nat} {A : Nat → Prop} {M M' : JM} {o ci N index : Nat} {C : String} {T : u_T}
variable {y : MethodName} {b : ByteArray} {n fr lo mc ms : Nat} {ret : Option FieldType}
theorem j_preS (jc : JC D Y ty p s m args c cc nL own) (w : JW D Y ty ad A s.heap M H locs) (As : List Value) : PreS s H (va_Pc As (j_Pre D Y ty ad M H.size)) As :=
  ⟨j_blind, fun U hU hW => ⟨rfl, by rw [hU], by rw [hU]; exact w.1, va_K.moved hW.alike jc.2.2.2.2.2.1, w.2.1.weaken (fun _ _ _ _ => trivial)⟩⟩
theorem j_preV (jc : JC D Y ty p s m args c cc nL own) (w : JW D Y ty ad A s.heap M H locs) (As : List Value) (ho : j_kd Y o = ci) (hci : ci < 11) (hc : jcl[ci]? = some (C, T, N)) : PreV s H C (ad o) (va_Pc (.ref (ad o) :: As) (j_Pre D Y ty ad M H.size)) As :=
  ⟨j_blind, va_recv (q := (C, T, N)) jc.2.2.2.2.2.1 w.1 (ci := ci) (q0 := o) hc (by rw [j_w_get (j_lt ho (by omega)), j_en_obj ho hci]), fun U hU hW => ⟨rfl, by rw [hU], by rw [hU]; exact w.1, va_K.moved hW.alike jc.2.2.2.2.2.1, w.2.1.weaken (fun _ _ _ _ => trivial)⟩⟩
theorem j_AA (w : JW D Y ty ad A s.heap M H locs) (hA : ∀ q, s.heap.size ≤ q → A q) : ∀ q, j_A Y ad H.size q → A q := fun q h => h.elim (fun ⟨_, ho, e⟩ => by rw [e]; exact j_D_A w.2.1 ho) (fun h => hA q (Nat.le_trans w.2.2.1 h))
theorem j_back {t : State} {H1 : Heap} {locs1 : List Loc} {M' : JM} (w : JW D Y ty ad A s.heap M H locs) (ht : t.heap = H1) (hB : j_Po D Y ty ad (j_A Y ad H.size) M' t) (hS : va_S A s.heap H1 locs1) : JW D Y ty ad A s.heap M' H1 locs1 :=
  ⟨by rw [← ht]; exact hB.1, j_w_D w.2.1 (fun _ h => j_D_A w.2.1 h), hS⟩
abbrev j_side (own : String) (index : Nat) (y : MethodName) (b : ByteArray) (n : Nat) (ret : Option FieldType) (k : Nat) : Prop := Cond.code y b n ret ∈ jwd ∧ Cond.initialized y.cls ∈ jwd ∧ Cond.methodLink own index y ∈ jwd ∧ (y.cls ≠ "java/lang/invoke/MethodHandle" ∧ y.cls ≠ "java/lang/invoke/VarHandle" ∧ (parseMethodDescriptor y.desc).map (fun d => d.parameters.length) = some k)
abbrev j_sideV (own : String) (index : Nat) (C : String) (y : MethodName) (b : ByteArray) (n : Nat) (ret : Option FieldType) (k : Nat) : Prop := j_side own index y b n ret k ∧ Cond.instanceMethod y ∈ jwd ∧ Cond.selects C y y ∈ jwd
abbrev j_sideS (own : String) (index : Nat) (y : MethodName) (b : ByteArray) (n : Nat) (ret : Option FieldType) (k : Nat) : Prop := j_side own index y b n ret k ∧ Cond.static y ∈ jwd
theorem j_runV {Qc : Array Value → State → Outcome → State → Prop} {As rest st0 : List Value} (jc : JC D Y ty p s m args c cc nL own) (w : JW D Y ty ad A s.heap M H locs) (ho : j_kd Y o = ci) (hci : ci < 11) (hc : jcl[ci]? = some (C, T, N))
    (hM : Met l y (j_ws y b n ret) (j_rm fr lo mc ms) (va_Pc (.ref (ad o) :: As) (j_Pre D Y ty ad M H.size)) Qc mc ms (j_A Y ad H.size)) (sd : j_sideV own index C y b n ret As.length) (hst : As.reverse ++ .ref (ad o) :: rest = st0) (hls : ls.size = nL) (hR : fr + 1 ≤ R.frames ∧ 8 + (n + 11) + lo ≤ R.locals ∧ cells + mc ≤ R.cells ∧ slots + ms ≤ R.slots) (hr8 : (rest.map fun v => v.category).sum ≤ 8) (hdg : decode cc pc = .ok (.invokevirtual index, 3)) :
    va_Run p l e R s m args below meth c H locs cells slots mc ms (F0 m pc ls st0) rest (Qc (Value.ref (ad o) :: As).toArray) (j_A Y ad H.size) :=
  va_runV (As := As) (rest := rest) (Ts := jwd) ⟨jc.1, jc.2.1, jc.2.2.1, jc.2.2.2.1, jc.2.2.2.2.1⟩ hM ⟨j_cwB jc.2.2.2.2.1 sd.1.1 sd.1.2.1 sd.1.2.2.1 sd.1.2.2.2 ⟨hR.1, hR.2.1⟩, jc.2.2.2.2.1 _ sd.2.1, jc.2.2.2.2.1 _ sd.2.2⟩ (j_preV jc w As ho hci hc) rfl rfl hls hst.symm (lv_room hr8) hdg hR.2.2
theorem j_runS {Qc : Array Value → State → Outcome → State → Prop} {As rest st0 : List Value} (jc : JC D Y ty p s m args c cc nL own) (w : JW D Y ty ad A s.heap M H locs)
    (hM : Met l y (j_ws y b n ret) (j_rm fr lo mc ms) (va_Pc As (j_Pre D Y ty ad M H.size)) Qc mc ms (j_A Y ad H.size)) (sd : j_sideS own index y b n ret As.length) (hst : As.reverse ++ rest = st0) (hls : ls.size = nL) (hR : fr + 1 ≤ R.frames ∧ 8 + (n + 11) + lo ≤ R.locals ∧ cells + mc ≤ R.cells ∧ slots + ms ≤ R.slots) (hr8 : (rest.map fun v => v.category).sum ≤ 8) (hdg : decode cc pc = .ok (.invokestatic index, 3)) :
    va_Run p l e R s m args below meth c H locs cells slots mc ms (F0 m pc ls st0) rest (Qc As.toArray) (j_A Y ad H.size) :=
  va_runS (As := As) (rest := rest) (Ts := jwd) ⟨jc.1, jc.2.1, jc.2.2.1, jc.2.2.2.1, jc.2.2.2.2.1⟩ hM ⟨j_cwB jc.2.2.2.2.1 sd.1.1 sd.1.2.1 sd.1.2.2.1 sd.1.2.2.2 ⟨hR.1, hR.2.1⟩, jc.2.2.2.2.1 _ sd.2⟩ (j_preS jc w As) rfl rfl hls hst.symm (lv_room hr8) hdg hR.2.2
theorem jc_vi {r : Int32} (As rest : List Value) {st0 : List Value} (jc : JC D Y ty p s m args c cc nL own) (w : JW D Y ty ad A s.heap M H locs) (hA : ∀ q, s.heap.size ≤ q → A q) (ho : j_kd Y o = ci) (hci : ci < 11) (hc : jcl[ci]? = some (C, T, N))
    (hM : JMi D Y ty ad H.size l y b n ret fr lo (.ref (ad o) :: As) M r M') (sd : j_sideV own index C y b n ret As.length) (hst : As.reverse ++ .ref (ad o) :: rest = st0) (hls : ls.size = nL) (hR : fr + 1 ≤ R.frames ∧ 8 + (n + 11) + lo ≤ R.locals ∧ cells + 0 ≤ R.cells ∧ slots + 0 ≤ R.slots) (hr8 : (rest.map fun v => v.category).sum ≤ 8) (hdg : decode cc pc = .ok (.invokevirtual index, 3))
    (kk : ∀ (H1 : Heap) (locs1 : List Loc), JW D Y ty ad A s.heap M' H1 locs1 → W p l e R s m args below meth c H1 locs1 cells slots Q (F0 m (pc + 3) ls (.int r :: rest))) : W p l e R s m args below meth c H locs cells slots Q (F0 m pc ls st0) := by
  refine va_calli (j_runV jc w ho hci hc hM sd hst hls hR hr8 hdg) w.2.2 (fun q _ h => j_AA w hA q h) (fun q h => j_AA w hA q h) (fun r1 u t H1 locs1 ht hvm hw hB hz hk hS => ?_)
  obtain ⟨rfl, rfl⟩ := hw
  exact kk H1 locs1 (j_back w ht hB hS)
theorem jc_vv (As rest : List Value) {st0 : List Value} (jc : JC D Y ty p s m args c cc nL own) (w : JW D Y ty ad A s.heap M H locs) (hA : ∀ q, s.heap.size ≤ q → A q) (ho : j_kd Y o = ci) (hci : ci < 11) (hc : jcl[ci]? = some (C, T, N))
    (hM : JMv D Y ty ad H.size l y b n fr lo (.ref (ad o) :: As) M M') (sd : j_sideV own index C y b n none As.length) (hst : As.reverse ++ .ref (ad o) :: rest = st0) (hls : ls.size = nL) (hR : fr + 1 ≤ R.frames ∧ 8 + (n + 11) + lo ≤ R.locals ∧ cells + 0 ≤ R.cells ∧ slots + 0 ≤ R.slots) (hr8 : (rest.map fun v => v.category).sum ≤ 8) (hdg : decode cc pc = .ok (.invokevirtual index, 3))
    (kk : ∀ (H1 : Heap) (locs1 : List Loc), JW D Y ty ad A s.heap M' H1 locs1 → W p l e R s m args below meth c H1 locs1 cells slots Q (F0 m (pc + 3) ls rest)) : W p l e R s m args below meth c H locs cells slots Q (F0 m pc ls st0) := by
  refine va_callv (j_runV jc w ho hci hc hM sd hst hls hR hr8 hdg) w.2.2 (fun q _ h => j_AA w hA q h) (fun q h => j_AA w hA q h) (fun u t H1 locs1 ht hvm hw hB hz hk hS => ?_)
  subst hw
  exact kk H1 locs1 (j_back w ht hB hS)
theorem jc_vr {r kc : Nat} (As rest : List Value) {st0 : List Value} (jc : JC D Y ty p s m args c cc nL own) (w : JW D Y ty ad A s.heap M H locs) (hA : ∀ q, s.heap.size ≤ q → A q) (ho : j_kd Y o = ci) (hci : ci < 11) (hc : jcl[ci]? = some (C, T, N))
    (hM : JMr D Y ty ad H.size l y b n ret fr lo (.ref (ad o) :: As) M r M' kc) (sd : j_sideV own index C y b n ret As.length) (hst : As.reverse ++ .ref (ad o) :: rest = st0) (hls : ls.size = nL) (hR : fr + 1 ≤ R.frames ∧ 8 + (n + 11) + lo ≤ R.locals ∧ cells + 0 ≤ R.cells ∧ slots + 0 ≤ R.slots) (hr8 : (rest.map fun v => v.category).sum ≤ 8) (hdg : decode cc pc = .ok (.invokevirtual index, 3))
    (kk : ∀ (H1 : Heap) (locs1 : List Loc), JW D Y ty ad A s.heap M' H1 locs1 → j_kd Y r = kc → W p l e R s m args below meth c H1 locs1 cells slots Q (F0 m (pc + 3) ls (.ref (ad r) :: rest))) : W p l e R s m args below meth c H locs cells slots Q (F0 m pc ls st0) := by
  refine va_callr (j_runV jc w ho hci hc hM sd hst hls hR hr8 hdg) w.2.2 (fun q _ h => j_AA w hA q h) (fun q h => j_AA w hA q h) (fun u a t H1 locs1 ht hvm hw hB hz hk hS => ?_)
  obtain ⟨rfl, hk9⟩ := hw
  obtain ⟨rfl, hB⟩ := hB
  exact kk H1 locs1 (j_back w ht hB hS) hk9
theorem jc_si {r : Int32} (As rest : List Value) {st0 : List Value} (jc : JC D Y ty p s m args c cc nL own) (w : JW D Y ty ad A s.heap M H locs) (hA : ∀ q, s.heap.size ≤ q → A q)
    (hM : JMi D Y ty ad H.size l y b n ret fr lo As M r M') (sd : j_sideS own index y b n ret As.length) (hst : As.reverse ++ rest = st0) (hls : ls.size = nL) (hR : fr + 1 ≤ R.frames ∧ 8 + (n + 11) + lo ≤ R.locals ∧ cells + 0 ≤ R.cells ∧ slots + 0 ≤ R.slots) (hr8 : (rest.map fun v => v.category).sum ≤ 8) (hdg : decode cc pc = .ok (.invokestatic index, 3))
    (kk : ∀ (H1 : Heap) (locs1 : List Loc), JW D Y ty ad A s.heap M' H1 locs1 → W p l e R s m args below meth c H1 locs1 cells slots Q (F0 m (pc + 3) ls (.int r :: rest))) : W p l e R s m args below meth c H locs cells slots Q (F0 m pc ls st0) := by
  refine va_calli (j_runS jc w hM sd hst hls hR hr8 hdg) w.2.2 (fun q _ h => j_AA w hA q h) (fun q h => j_AA w hA q h) (fun r1 u t H1 locs1 ht hvm hw hB hz hk hS => ?_)
  obtain ⟨rfl, rfl⟩ := hw
  exact kk H1 locs1 (j_back w ht hB hS)
theorem jc_sv (As rest : List Value) {st0 : List Value} (jc : JC D Y ty p s m args c cc nL own) (w : JW D Y ty ad A s.heap M H locs) (hA : ∀ q, s.heap.size ≤ q → A q)
    (hM : JMv D Y ty ad H.size l y b n fr lo As M M') (sd : j_sideS own index y b n none As.length) (hst : As.reverse ++ rest = st0) (hls : ls.size = nL) (hR : fr + 1 ≤ R.frames ∧ 8 + (n + 11) + lo ≤ R.locals ∧ cells + 0 ≤ R.cells ∧ slots + 0 ≤ R.slots) (hr8 : (rest.map fun v => v.category).sum ≤ 8) (hdg : decode cc pc = .ok (.invokestatic index, 3))
    (kk : ∀ (H1 : Heap) (locs1 : List Loc), JW D Y ty ad A s.heap M' H1 locs1 → W p l e R s m args below meth c H1 locs1 cells slots Q (F0 m (pc + 3) ls rest)) : W p l e R s m args below meth c H locs cells slots Q (F0 m pc ls st0) := by
  refine va_callv (j_runS jc w hM sd hst hls hR hr8 hdg) w.2.2 (fun q _ h => j_AA w hA q h) (fun q h => j_AA w hA q h) (fun u t H1 locs1 ht hvm hw hB hz hk hS => ?_)
  subst hw
  exact kk H1 locs1 (j_back w ht hB hS)
theorem jc_vz {r : Int32} (As rest : List Value) {st0 : List Value} (jc : JC D Y ty p s m args c cc nL own) (w : JW D Y ty ad A s.heap M H locs) (hA : ∀ q, s.heap.size ≤ q → A q) (ho : j_kd Y o = ci) (hci : ci < 11) (hc : jcl[ci]? = some (C, T, N))
    (hM : JMz D Y ty ad H.size l y b n fr lo (.ref (ad o) :: As) M r M') (sd : j_sideV own index C y b n (some .boolean) As.length) (hst : As.reverse ++ .ref (ad o) :: rest = st0) (hls : ls.size = nL) (hR : fr + 1 ≤ R.frames ∧ 8 + (n + 11) + lo ≤ R.locals ∧ cells + 0 ≤ R.cells ∧ slots + 0 ≤ R.slots) (hr8 : (rest.map fun v => v.category).sum ≤ 8) (hdg : decode cc pc = .ok (.invokevirtual index, 3))
    (kk : ∀ (H1 : Heap) (locs1 : List Loc), JW D Y ty ad A s.heap M' H1 locs1 → (r = 0 ∨ r = 1) → W p l e R s m args below meth c H1 locs1 cells slots Q (F0 m (pc + 3) ls (.int r :: rest))) : W p l e R s m args below meth c H locs cells slots Q (F0 m pc ls st0) := by
  refine va_calli (j_runV jc w ho hci hc hM sd hst hls hR hr8 hdg) w.2.2 (fun q _ h => j_AA w hA q h) (fun q h => j_AA w hA q h) (fun r1 u t H1 locs1 ht hvm hw hB hz hk hS => ?_)
  obtain ⟨rfl, rfl, hz9⟩ := hw
  exact kk H1 locs1 (j_back w ht hB hS) hz9
theorem jc_sz {r : Int32} (As rest : List Value) {st0 : List Value} (jc : JC D Y ty p s m args c cc nL own) (w : JW D Y ty ad A s.heap M H locs) (hA : ∀ q, s.heap.size ≤ q → A q)
    (hM : JMz D Y ty ad H.size l y b n fr lo As M r M') (sd : j_sideS own index y b n (some .boolean) As.length) (hst : As.reverse ++ rest = st0) (hls : ls.size = nL) (hR : fr + 1 ≤ R.frames ∧ 8 + (n + 11) + lo ≤ R.locals ∧ cells + 0 ≤ R.cells ∧ slots + 0 ≤ R.slots) (hr8 : (rest.map fun v => v.category).sum ≤ 8) (hdg : decode cc pc = .ok (.invokestatic index, 3))
    (kk : ∀ (H1 : Heap) (locs1 : List Loc), JW D Y ty ad A s.heap M' H1 locs1 → (r = 0 ∨ r = 1) → W p l e R s m args below meth c H1 locs1 cells slots Q (F0 m (pc + 3) ls (.int r :: rest))) : W p l e R s m args below meth c H locs cells slots Q (F0 m pc ls st0) := by
  refine va_calli (j_runS jc w hM sd hst hls hR hr8 hdg) w.2.2 (fun q _ h => j_AA w hA q h) (fun q h => j_AA w hA q h) (fun r1 u t H1 locs1 ht hvm hw hB hz hk hS => ?_)
  obtain ⟨rfl, rfl, hz9⟩ := hw
  exact kk H1 locs1 (j_back w ht hB hS) hz9
end JCALL
/-! ===== named values, regions ===== -/
def lt_ {α β : Type} (a : α) (f : α → β) : β := f a
theorem j_lv {α β γ : Type} {a : α} {f : α → β} {F : β → γ} {r : γ} (h : F (lt_ a f) = r) : ∃ v, v = a ∧ F (f v) = r := ⟨a, rfl, h⟩
theorem j_lu {α β γ : Type} {a : α} {f : α → β} {F : β → γ} {r : γ} (h : F (lt_ a f) = r) {v : α} (e : v = a) : F (f v) = r := by subst e; exact h
theorem j_bd {α β γ : Type} {a : Option α} {f : α → Option β} {F : Option β → Option γ} {r : γ} (hF : ∀ r, F none ≠ some r) (h : F (a.bind f) = some r) : ∃ v, a = some v ∧ F (f v) = some r := by
  cases a with
  | none => exact absurd h (hF r)
  | some v => exact ⟨v, rfl, h⟩
theorem j_F0 {α : Type} {a b : α} (h : a = b) : ∃ F : α → α, F = id ∧ F a = b := ⟨id, rfl, h⟩
theorem j_F0o {α : Type} {a b : Option α} (h : a = b) : ∃ F : Option α → Option α, F = id ∧ (∀ r, F none ≠ some r) ∧ F a = b := ⟨id, rfl, (fun r h => by simp at h), h⟩
theorem j_ret {α : Type} {a b : α} {F : α → α} (e : F = id) (h : F a = b) : a = b := by subst e; exact h
theorem j_ctxB {α β γ : Type} {a : Option α} {f : α → Option β} {F : Option β → Option γ} {r : Option γ} (hF : ∀ r, F none ≠ some r) (h : F (a.bind f) = r) : ∃ F2 : Option α → Option γ, F2 = (fun t => F (t.bind f)) ∧ (∀ r, F2 none ≠ some r) ∧ F2 a = r := ⟨_, rfl, hF, h⟩
theorem j_ctxL {α β γ : Type} {a : α} {f : α → β} {F : β → γ} {r : γ} (h : F (lt_ a f) = r) : ∃ F2 : α → γ, F2 = (fun t => F (lt_ t f)) ∧ F2 a = r := ⟨_, rfl, h⟩
theorem j_popB {α β γ : Type} {a : α} {f : α → Option β} {F : Option β → Option γ} {F2 : Option α → Option γ} {r : Option γ} (e : F2 = (fun t => F (t.bind f))) (h : F2 (some a) = r) : F (f a) = r := by subst e; exact h
theorem j_popL {α β γ : Type} {a : α} {f : α → β} {F : β → γ} {F2 : α → γ} {r : γ} (e : F2 = (fun t => F (lt_ t f))) (h : F2 a = r) : F (f a) = r := by subst e; exact h
def j_fuel : Nat := 10000
theorem j_abs {a : Prop} {b : Prop} (h : ¬ a) (q : a) : b := absurd q h
theorem j_absn {a : Prop} {b : Prop} (h : a) (q : ¬ a) : b := absurd h q
theorem j_le0 {x : Int32} (h : 0 ≤ x) : ¬ x < 0 := by
  rw [Int32.lt_iff_toInt_lt]
  rw [Int32.le_iff_toInt_le] at h
  omega
theorem j_inN {Y : JY} (hY : j_ok Y) {o c : Nat} (ho : j_kd Y o = c) (hc : c < 999) {i : Int32} (h0 : ¬ i < 0) (h1 : ¬ Int32.ofNat (j_ln Y o) ≤ i) : vp_in i (j_ln Y o) := by
  refine j_in hY ho hc h0 ?_
  rw [Int32.lt_iff_toInt_lt]
  rw [Int32.le_iff_toInt_le] at h1
  omega
theorem j_inlt {i : Int32} {n : Nat} (h : vp_in i n) : i.toNatClampNeg < n := Nat.not_le.mp fun q => h (Or.inr q)
theorem j_hR {R : Room} {F L fr lo n : Nat} (hf : R.frames = F) (hl : R.locals = L) (h1 : Nat.ble (fr + 1) F = true) (h2 : Nat.ble (8 + (n + 11) + lo) L = true) : fr + 1 ≤ R.frames ∧ 8 + (n + 11) + lo ≤ R.locals ∧ 0 + 0 ≤ R.cells ∧ 0 + 0 ≤ R.slots :=
  ⟨by rw [hf]; exact Nat.le_of_ble_eq_true h1, by rw [hl]; exact Nat.le_of_ble_eq_true h2, Nat.zero_le _, Nat.zero_le _⟩
theorem j_fr1 {R : Room} {F : Nat} (hf : R.frames = F) (h1 : Nat.ble 1 F = true) : 1 ≤ R.frames := by rw [hf]; exact Nat.le_of_ble_eq_true h1
theorem j_lo1 {R : Room} {L k w : Nat} (hl : R.locals = L) (hk : k = w) (h1 : Nat.ble (w + 13) L = true) : k + 13 ≤ R.locals := by rw [hl, hk]; exact Nat.le_of_ble_eq_true h1
theorem j_out5 {x : Int32} (h0 : ¬ x = 0) (h1 : ¬ x = 1) (h2 : ¬ x = 2) (h3 : ¬ x = 3) (h4 : ¬ x = 4) : x.toInt < 0 ∨ 4 < x.toInt := by
  rw [← Int32.toInt_inj] at h0 h1 h2 h3 h4
  have e0 : (0 : Int32).toInt = 0 := rfl
  have e1 : (1 : Int32).toInt = 1 := rfl
  have e2 : (2 : Int32).toInt = 2 := rfl
  have e3 : (3 : Int32).toInt = 3 := rfl
  have e4 : (4 : Int32).toInt = 4 := rfl
  rw [e0] at h0; rw [e1] at h1; rw [e2] at h2; rw [e3] at h3; rw [e4] at h4
  omega
theorem j_fst {α β : Type} {a : α} {b : β} {r : α × β} (h : (a, b) = r) : a = r.1 := by subst h; rfl
theorem j_snd {α β : Type} {a : α} {b : β} {r : α × β} (h : (a, b) = r) : b = r.2 := by subst h; rfl

/-! ===== constructors: rows for an object and an array that come, a call of a constructor, a field ===== -/
theorem j_join {D : va_G} {A0 : Nat → Prop} {ws w1 : va_W} {q : Nat} {x : va_E} {H H1 : Heap} (hP : va_P D jcl (ws ++ [(q, x)]) H) (hD : va_D A0 (ws ++ [(q, x)])) (hk : ∀ z, z < H.size → ¬ j_B q H.size z → H1[z]? = H[z]?) (hF : ∀ z, j_B q H.size z → A0 z) (hP1 : va_P D jcl w1 H1) (hD1 : va_D (j_B q H.size) w1) : va_P D jcl (ws ++ w1) H1 ∧ va_D A0 (ws ++ w1) := by
  have hq : (ws ++ [(q, x)])[ws.length]? = some (q, x) := by simp
  have lift : ∀ (k : Nat) (z : Nat × va_E), ws[k]? = some z → (ws ++ [(q, x)])[k]? = some z := fun k z hz => by
    have hl : k < ws.length := (List.getElem?_eq_some_iff.mp hz).1
    rw [List.getElem?_append_left hl]
    exact hz
  have ap : ∀ (k : Nat) (z : Nat × va_E), ws[k]? = some z → z.1 < H.size ∧ z.1 ≠ q := fun k z hz => by
    have hl : k < ws.length := (List.getElem?_eq_some_iff.mp hz).1
    refine ⟨(hP k z (lift k z hz)).lt, fun e => ?_⟩
    have := hD.1 k ws.length z _ (lift k z hz) hq e
    omega
  refine ⟨va_P.app (va_P.kept (H := H) (fun k z hz => hP k z (lift k z hz)) (fun k z hz => hk _ (ap k z hz).1 (fun c => c.elim (ap k z hz).2 (fun c => by have := (ap k z hz).1; omega)))) hP1, va_D.app ⟨fun i j a b ha hb e => hD.1 i j a b (lift i a ha) (lift j b hb) e, fun k z hz => hD.2 k z (lift k z hz)⟩ (hD1.weaken (fun _ z _ h => hF _ h)) (fun i j u v hu hv e => ?_)⟩
  have h1 := ap i u hu
  rcases hD1.2 j v hv with h | h
  · exact h1.2 (e.trans h)
  · omega
section JNROW
variable {p : Program} {l : Launch} {e : Env} {R : Room} {s : State} {m : MethodId} {args : Array Value} {below : List Frame} {meth : Method} {c : Code} {H : Heap} {locs : List Loc} {cells slots : Nat} {Q : State → Prop}
variable {cc : ByteArray} {nL pc : Nat} {own : String} {ls : Array Slot} {rest : List Value} {D : va_G} {ty : Nat → ClassId} {A : Nat → Prop} {ws : va_W} {index : Nat}
theorem jn_new {C : String} {T : u_T} {N ci : Nat} {fs : List Value} (jn : JNC D ty p s m args c cc nL own) (w : JNW D A s.heap ws H locs) (hA : ∀ q, s.heap.size ≤ q → A q) (hc : jcl[ci]? = some (C, T, N)) (hin : ∀ x ∈ u_ws C T N, x ∈ jwd) (ty0 : Nat → FieldType) (hty : ∀ k, k < N → parseFieldDescriptor (T k).2.2.1 = some (ty0 k))
    (hcl : Cond.classLink own index C ∈ jwd) (hinst : Cond.instantiable C N ∈ jwd) (hini : Cond.initialized C ∈ jwd) (hfs : ∀ j, j < N → defaultValue (ty0 j) = vp_V fs j) (hR : cells + 1 ≤ R.cells ∧ slots + N ≤ R.slots) (hdg : decode cc pc = .ok (.new index, 3))
    (kk : ∀ (q : Nat) (H1 : Heap), JNW D A s.heap (ws ++ [(q, .inr (ci, fs))]) H1 locs → W p l e R s m args below meth c H1 locs (cells + 1) (slots + N) Q (F0 m (pc + 3) ls (.ref q :: rest))) : W p l e R s m args below meth c H locs cells slots Q (F0 m pc ls rest) :=
  va_new jn.1 jn.2.1 jn.2.2.2.2.1 hin ty0 hty jn.2.2.2.1 (jn.2.2.2.2.1 _ hcl) (jn.2.2.2.2.1 _ hinst) (jn.2.2.2.2.1 _ hini) jn.2.2.2.2.2.1 w.1 w.2.1 w.2.2 hA hc hfs hR.1 hR.2 hdg (fun q H1 hP hD hS => kk q H1 ⟨hP, hD, hS⟩)
theorem jn_newi {n : Int32} {N : Nat} (jn : JNC D ty p s m args c cc nL own) (w : JNW D A s.heap ws H locs) (hA : ∀ q, s.heap.size ≤ q → A q) (hn : ¬ n < 0) (hN : n.toNatClampNeg = N) (hb : N < 1000000) (hR : cells + 1 ≤ R.cells ∧ slots + N ≤ R.slots) (hdg : decode cc pc = .ok (.newarray .int, 2))
    (kk : ∀ (q : Nat) (H1 : Heap), JNW D A s.heap (ws ++ [(q, .inl (ty 0, N, .inl (fun _ => 0)))]) H1 locs → W p l e R s m args below meth c H1 locs (cells + 1) (slots + N) Q (F0 m (pc + 2) ls (.ref q :: rest))) : W p l e R s m args below meth c H locs cells slots Q (F0 m pc ls (.int n :: rest)) := by
  refine va_newa jn.1 jn.2.1 (atype := .int) (jn.2.2.2.2.1 _ wd_3_194) rfl jn.2.2.2.2.2.1 w.1 w.2.1 w.2.2 hA (a0 := (N, .inl (fun _ => 0))) (fun cA => rfl) hn hN (by show N * 4 ≤ 536870912; omega) hR.1 hR.2 hdg (fun q cA H1 hK1 hP hD hS => ?_)
  have h1 : s.vm.findClass ("[" ++ (FieldType.int).toString) = some cA := (hK1.2 4 (cA, .int) rfl).2
  have h2 : s.vm.findClass ("[" ++ (FieldType.int).toString) = some (ty 0) := (jn.2.2.2.2.2.1.2 0 (ty 0, .int) rfl).2
  have h3 : cA = ty 0 := Option.some.inj (h1.symm.trans h2)
  subst h3
  exact kk q H1 ⟨hP, hD, hS⟩
theorem jn_call {y : MethodName} {b : ByteArray} {n fr lo mc ms c0 q : Nat} {fs As st0 : List Value} {Ys : JY} {Ms : JM} (jn : JNC D ty p s m args c cc nL own) (w : JNW D A s.heap (ws ++ [(q, .inr (c0, fs))]) H locs) (hA : ∀ q, s.heap.size ≤ q → A q) (hM : JN D ty l y b n fr lo mc ms c0 q H.size fs As Ys Ms)
    (sd : j_side own index y b n none As.length ∧ y.name = "<init>" ∧ Cond.instanceMethod y ∈ jwd) (hst : As.reverse ++ .ref q :: rest = st0) (hls : ls.size = nL) (hR : fr + 1 ≤ R.frames ∧ 8 + (n + 11) + lo ≤ R.locals ∧ cells + mc ≤ R.cells ∧ slots + ms ≤ R.slots) (hr8 : (rest.map fun v => v.category).sum ≤ 8) (hdg : decode cc pc = .ok (.invokespecial index, 3))
    (kk : ∀ (ad : Nat → Nat) (H1 : Heap) (locs1 : List Loc), ad 0 = q → JNW D A s.heap (ws ++ j_w Ys ty ad Ms) H1 locs1 → W p l e R s m args below meth c H1 locs1 (cells + mc) (slots + ms) Q (F0 m (pc + 3) ls rest)) : W p l e R s m args below meth c H locs cells slots Q (F0 m pc ls st0) := by
  have hAq : A q := w.2.1.2 ws.length (q, .inr (c0, fs)) (by simp)
  have hAA : ∀ z, j_B q H.size z → A z := fun z h => h.elim (fun h => by rw [h]; exact hAq) (fun h => hA z (Nat.le_trans w.2.2.1 h))
  have hPx : va_P D jcl [((q, .inr (c0, fs)) : Nat × va_E)] H := fun k z hk => by
    have h1 := List.mem_of_getElem? hk
    rw [List.mem_singleton.mp h1]
    exact w.1 ws.length _ (by simp)
  refine va_callv (va_runI (As := As) (rest := rest) (Ts := jwd) ⟨jn.1, jn.2.1, jn.2.2.1, jn.2.2.2.1, jn.2.2.2.2.1⟩ hM ⟨j_cwB jn.2.2.2.2.1 sd.1.1 sd.1.2.1 sd.1.2.2.1 sd.1.2.2.2 ⟨hR.1, hR.2.1⟩, sd.2.1, jn.2.2.2.2.1 _ sd.2.2⟩ ⟨j_blindN, fun U hU hW => ⟨rfl, by rw [hU], by rw [hU]; exact hPx, va_K.moved hW.alike jn.2.2.2.2.2.1, j_X.moved hW jn.2.2.2.2.2.2⟩⟩ rfl rfl hls hst.symm (lv_room hr8) hdg hR.2.2) w.2.2 (fun z _ h => hAA z h) (fun z h => hAA z h) (fun ad t H1 locs1 ht hvm hw hB hz hk hS => ?_)
  obtain ⟨hP1, hK1, hD1⟩ := hB
  rw [ht] at hP1
  obtain ⟨x1, x2⟩ := j_join w.1 w.2.1 hk hAA hP1 hD1
  exact kk ad H1 locs1 hw ⟨x1, x2, hS⟩
theorem jn_putF {C : String} {T : u_T} {N ci k a : Nat} {fs : List Value} {tl : va_W} {v : Value} (jn : JNC D ty p s m args c cc nL own) (hnm0 : meth.name = "<init>") (w : JNW D A s.heap ((a, .inr (ci, fs)) :: tl) H locs) (hc : jcl[ci]? = some (C, T, N)) (hin : ∀ x ∈ u_ws C T N, x ∈ jwd) (ty0 : Nat → FieldType) (hty : ∀ k, k < N → parseFieldDescriptor (T k).2.2.1 = some (ty0 k)) (hnm : ∀ a, a < N → ∀ b, b < N → a ≠ b → (T a).2.1 ≠ (T b).2.1) (hk : k < N)
    (hl : Cond.fieldLink own index (T k).1 (T k).2.1 (T k).2.2.1 ∈ jwd) (hfin : (T k).2.2.2 = true) (hdecl : (T k).1 = own) (hn : narrow (ty0 k) v = v) (hfit : fits (ty0 k) v = true) (hlen : k < fs.length) (hdg : decode cc pc = .ok (.putfield index, 3))
    (kk : ∀ (H1 : Heap) (locs1 : List Loc), JNW D A s.heap ((a, .inr (ci, fs.set k v)) :: tl) H1 locs1 → W p l e R s m args below meth c H1 locs1 cells slots Q (F0 m (pc + 3) ls rest)) : W p l e R s m args below meth c H locs cells slots Q (F0 m pc ls (v :: .ref a :: rest)) :=
  va_putF jn.1 jn.2.1 jn.2.2.2.2.1 hin ty0 hty hnm jn.2.2.2.1 jn.2.2.2.2.2.1 w.1 w.2.1 w.2.2 0 (fs := fs) rfl hc k hk (jn.2.2.2.2.1 _ hl) (fun _ h => h) hfin hnm0 hdecl (hty k hk) hn hfit hlen hdg (fun H1 locs1 hP hD hS => kk H1 locs1 ⟨hP, hD, hS⟩)
theorem jn_put {C : String} {T : u_T} {N ci k a : Nat} {fs : List Value} {tl : va_W} {v : Value} (jn : JNC D ty p s m args c cc nL own) (w : JNW D A s.heap ((a, .inr (ci, fs)) :: tl) H locs) (hc : jcl[ci]? = some (C, T, N)) (hin : ∀ x ∈ u_ws C T N, x ∈ jwd) (ty0 : Nat → FieldType) (hty : ∀ k, k < N → parseFieldDescriptor (T k).2.2.1 = some (ty0 k)) (hnm : ∀ a, a < N → ∀ b, b < N → a ≠ b → (T a).2.1 ≠ (T b).2.1) (hk : k < N)
    (hl : Cond.fieldLink own index (T k).1 (T k).2.1 (T k).2.2.1 ∈ jwd) (hfin : (T k).2.2.2 = false) (hn : narrow (ty0 k) v = v) (hfit : fits (ty0 k) v = true) (hlen : k < fs.length) (hdg : decode cc pc = .ok (.putfield index, 3))
    (kk : ∀ (H1 : Heap) (locs1 : List Loc), JNW D A s.heap ((a, .inr (ci, fs.set k v)) :: tl) H1 locs1 → W p l e R s m args below meth c H1 locs1 cells slots Q (F0 m (pc + 3) ls rest)) : W p l e R s m args below meth c H locs cells slots Q (F0 m pc ls (v :: .ref a :: rest)) :=
  va_put jn.1 jn.2.1 jn.2.2.2.2.1 hin ty0 hty hnm jn.2.2.2.1 jn.2.2.2.2.2.1 w.1 w.2.1 w.2.2 0 (fs := fs) rfl hc k hk (jn.2.2.2.2.1 _ hl) (fun _ h => h) hfin (hty k hk) hn hfit hlen hdg (fun H1 locs1 hP hD hS => kk H1 locs1 ⟨hP, hD, hS⟩)
end JNROW

/-! ===== the law: rows for an array that comes ===== -/
section AX
variable {Y : JY} {ad : Nat → Nat} {M : JM} {q : Nat}
theorem ax_n {o : Nat} (h : Y.1.length = o) : ax Y ad q o = q := if_pos h.symm
theorem ax_o {o : Nat} (h : o < Y.1.length) : ax Y ad q o = ad o := if_neg (by omega)
theorem mx_n {o : Nat} (h : Y.1.length = o) (t : Nat) : mx Y M o t = 0 := if_pos h.symm
theorem mx_o {o : Nat} (h : o < Y.1.length) (t : Nat) : mx Y M o t = M o t := if_neg (by omega)
theorem mx_fr (h1 : 140 ≤ Y.1.length) (h2 : Y.1.length < 145) : JFr 140 145 M (mx Y M) := by
  intro a ha
  funext t
  exact if_neg (by omega)
end AX
section JLN
variable {p : Program} {l : Launch} {e : Env} {R : Room} {s : State} {m : MethodId} {args : Array Value} {below : List Frame} {meth : Method} {c : Code} {H : Heap} {locs : List Loc} {cells slots : Nat} {Q : State → Prop}
variable {cc : ByteArray} {nL pc : Nat} {own : String} {ls : Array Slot} {rest : List Value} {D : va_G} {Y : JY} {ty : Nat → ClassId} {ad : Nat → Nat} {A : Nat → Prop} {M : JM}
theorem jl_newz {n : Int32} {N : Nat} (jc : JC D Y ty p s m args c cc nL own) (hE : YE Y) (w : JW D Y ty ad A s.heap M H locs) (hA : ∀ q, s.heap.size ≤ q → A q) (hn : ¬ n < 0) (hN : n.toNatClampNeg = N) (hb : N < 1000000) (hR : cells + 1 ≤ R.cells ∧ slots + N ≤ R.slots) (hdg : decode cc pc = .ok (.newarray .boolean, 2))
    (kk : ∀ (q : Nat) (H1 : Heap), JW D (yx Y 101 N) ty (ax Y ad q) A s.heap (mx Y M) H1 locs → W p l e R s m args below meth c H1 locs (cells + 1) (slots + N) Q (F0 m (pc + 2) ls (.ref q :: rest))) : W p l e R s m args below meth c H locs cells slots Q (F0 m pc ls (.int n :: rest)) := by
  refine va_newa jc.1 jc.2.1 (atype := .boolean) (jc.2.2.2.2.1 _ wd_5_67) rfl jc.2.2.2.2.2.1 w.1 w.2.1 w.2.2 hA (a0 := (N, .inl (fun _ => 0))) (fun cA => rfl) hn hN (by show N * 1 ≤ 536870912; omega) hR.1 hR.2 hdg (fun q cA H1 hK1 hP hD hS => ?_)
  have h1 : s.vm.findClass ("[" ++ (FieldType.boolean).toString) = some cA := (hK1.2 4 (cA, .boolean) rfl).2
  have h2 : s.vm.findClass ("[" ++ (FieldType.boolean).toString) = some (ty 1) := (jc.2.2.2.2.2.1.2 1 (ty 1, .boolean) rfl).2
  have h3 : cA = ty 1 := Option.some.inj (h1.symm.trans h2)
  subst h3
  have ew := yx_w (Y := Y) (ty := ty) (ad := ad) (M := M) (kd := 101) (N := N) (q := q) (t := ty 1) hE.2.1 (Or.inr (Or.inl ⟨rfl, rfl⟩))
  exact kk q H1 ⟨by rw [ew]; exact hP, by rw [ew]; exact hD, hS⟩
theorem jl_newi {n : Int32} {N : Nat} (jc : JC D Y ty p s m args c cc nL own) (hE : YE Y) (w : JW D Y ty ad A s.heap M H locs) (hA : ∀ q, s.heap.size ≤ q → A q) (hn : ¬ n < 0) (hN : n.toNatClampNeg = N) (hb : N < 1000000) (hR : cells + 1 ≤ R.cells ∧ slots + N ≤ R.slots) (hdg : decode cc pc = .ok (.newarray .int, 2))
    (kk : ∀ (q : Nat) (H1 : Heap), JW D (yx Y 100 N) ty (ax Y ad q) A s.heap (mx Y M) H1 locs → W p l e R s m args below meth c H1 locs (cells + 1) (slots + N) Q (F0 m (pc + 2) ls (.ref q :: rest))) : W p l e R s m args below meth c H locs cells slots Q (F0 m pc ls (.int n :: rest)) := by
  refine va_newa jc.1 jc.2.1 (atype := .int) (jc.2.2.2.2.1 _ wd_3_194) rfl jc.2.2.2.2.2.1 w.1 w.2.1 w.2.2 hA (a0 := (N, .inl (fun _ => 0))) (fun cA => rfl) hn hN (by show N * 4 ≤ 536870912; omega) hR.1 hR.2 hdg (fun q cA H1 hK1 hP hD hS => ?_)
  have h1 : s.vm.findClass ("[" ++ (FieldType.int).toString) = some cA := (hK1.2 4 (cA, .int) rfl).2
  have h2 : s.vm.findClass ("[" ++ (FieldType.int).toString) = some (ty 0) := (jc.2.2.2.2.2.1.2 0 (ty 0, .int) rfl).2
  have h3 : cA = ty 0 := Option.some.inj (h1.symm.trans h2)
  subst h3
  have ew := yx_w (Y := Y) (ty := ty) (ad := ad) (M := M) (kd := 100) (N := N) (q := q) (t := ty 0) hE.2.1 (Or.inl ⟨rfl, rfl⟩)
  exact kk q H1 ⟨by rw [ew]; exact hP, by rw [ew]; exact hD, hS⟩
theorem jl_newc {n : Int32} {N : Nat} (jc : JC D Y ty p s m args c cc nL own) (hE : YE Y) (w : JW D Y ty ad A s.heap M H locs) (hA : ∀ q, s.heap.size ≤ q → A q) (hn : ¬ n < 0) (hN : n.toNatClampNeg = N) (hb : N < 1000000) (hR : cells + 1 ≤ R.cells ∧ slots + N ≤ R.slots) (hdg : decode cc pc = .ok (.newarray .char, 2))
    (kk : ∀ (q : Nat) (H1 : Heap), JW D (yx Y 102 N) ty (ax Y ad q) A s.heap (mx Y M) H1 locs → W p l e R s m args below meth c H1 locs (cells + 1) (slots + N) Q (F0 m (pc + 2) ls (.ref q :: rest))) : W p l e R s m args below meth c H locs cells slots Q (F0 m pc ls (.int n :: rest)) := by
  refine va_newa jc.1 jc.2.1 (atype := .char) (jc.2.2.2.2.1 _ wd_5_68) rfl jc.2.2.2.2.2.1 w.1 w.2.1 w.2.2 hA (a0 := (N, .inl (fun _ => 0))) (fun cA => rfl) hn hN (by show N * 2 ≤ 536870912; omega) hR.1 hR.2 hdg (fun q cA H1 hK1 hP hD hS => ?_)
  have h1 : s.vm.findClass ("[" ++ (FieldType.char).toString) = some cA := (hK1.2 4 (cA, .char) rfl).2
  have h2 : s.vm.findClass ("[" ++ (FieldType.char).toString) = some (ty 2) := (jc.2.2.2.2.2.1.2 2 (ty 2, .char) rfl).2
  have h3 : cA = ty 2 := Option.some.inj (h1.symm.trans h2)
  subst h3
  have ew := yx_w (Y := Y) (ty := ty) (ad := ad) (M := M) (kd := 102) (N := N) (q := q) (t := ty 2) hE.2.1 (Or.inr (Or.inr ⟨rfl, rfl⟩))
  exact kk q H1 ⟨by rw [ew]; exact hP, by rw [ew]; exact hD, hS⟩
end JLN

/-! ===== constructors: the model; rows of other kinds ===== -/
section JNR2
variable {p : Program} {l : Launch} {e : Env} {R : Room} {s : State} {m : MethodId} {args : Array Value} {below : List Frame} {meth : Method} {c : Code} {H : Heap} {locs : List Loc} {cells slots : Nat} {Q : State → Prop}
variable {cc : ByteArray} {nL pc : Nat} {own : String} {ls : Array Slot} {rest : List Value} {D : va_G} {ty : Nat → ClassId} {A : Nat → Prop} {ws : va_W} {index : Nat}
theorem jn_newb {n : Int32} {N : Nat} (jn : JNC D ty p s m args c cc nL own) (w : JNW D A s.heap ws H locs) (hA : ∀ q, s.heap.size ≤ q → A q) (hn : ¬ n < 0) (hN : n.toNatClampNeg = N) (hb : N < 1000000) (hR : cells + 1 ≤ R.cells ∧ slots + N ≤ R.slots) (hdg : decode cc pc = .ok (.newarray .boolean, 2))
    (kk : ∀ (q : Nat) (H1 : Heap), JNW D A s.heap (ws ++ [(q, .inl (ty 1, N, .inl (fun _ => 0)))]) H1 locs → W p l e R s m args below meth c H1 locs (cells + 1) (slots + N) Q (F0 m (pc + 2) ls (.ref q :: rest))) : W p l e R s m args below meth c H locs cells slots Q (F0 m pc ls (.int n :: rest)) := by
  refine va_newa jn.1 jn.2.1 (atype := .boolean) (jn.2.2.2.2.1 _ wd_7_5) rfl jn.2.2.2.2.2.1 w.1 w.2.1 w.2.2 hA (a0 := (N, .inl (fun _ => 0))) (fun cA => rfl) hn hN (by show N * 1 ≤ 536870912; omega) hR.1 hR.2 hdg (fun q cA H1 hK1 hP hD hS => ?_)
  have h1 : s.vm.findClass ("[" ++ (FieldType.boolean).toString) = some cA := (hK1.2 6 (cA, .boolean) rfl).2
  have h2 : s.vm.findClass ("[" ++ (FieldType.boolean).toString) = some (ty 1) := (jn.2.2.2.2.2.1.2 1 (ty 1, .boolean) rfl).2
  have h3 : cA = ty 1 := Option.some.inj (h1.symm.trans h2)
  subst h3
  exact kk q H1 ⟨hP, hD, hS⟩
theorem jn_newc {n : Int32} {N : Nat} (jn : JNC D ty p s m args c cc nL own) (w : JNW D A s.heap ws H locs) (hA : ∀ q, s.heap.size ≤ q → A q) (hn : ¬ n < 0) (hN : n.toNatClampNeg = N) (hb : N < 1000000) (hR : cells + 1 ≤ R.cells ∧ slots + N ≤ R.slots) (hdg : decode cc pc = .ok (.newarray .char, 2))
    (kk : ∀ (q : Nat) (H1 : Heap), JNW D A s.heap (ws ++ [(q, .inl (ty 2, N, .inl (fun _ => 0)))]) H1 locs → W p l e R s m args below meth c H1 locs (cells + 1) (slots + N) Q (F0 m (pc + 2) ls (.ref q :: rest))) : W p l e R s m args below meth c H locs cells slots Q (F0 m pc ls (.int n :: rest)) := by
  refine va_newa jn.1 jn.2.1 (atype := .char) (jn.2.2.2.2.1 _ wd_7_4) rfl jn.2.2.2.2.2.1 w.1 w.2.1 w.2.2 hA (a0 := (N, .inl (fun _ => 0))) (fun cA => rfl) hn hN (by show N * 2 ≤ 536870912; omega) hR.1 hR.2 hdg (fun q cA H1 hK1 hP hD hS => ?_)
  have h1 : s.vm.findClass ("[" ++ (FieldType.char).toString) = some cA := (hK1.2 6 (cA, .char) rfl).2
  have h2 : s.vm.findClass ("[" ++ (FieldType.char).toString) = some (ty 2) := (jn.2.2.2.2.2.1.2 2 (ty 2, .char) rfl).2
  have h3 : cA = ty 2 := Option.some.inj (h1.symm.trans h2)
  subst h3
  exact kk q H1 ⟨hP, hD, hS⟩
theorem jn_newl {n : Int32} {N : Nat} (jn : JNC D ty p s m args c cc nL own) (w : JNW D A s.heap ws H locs) (hA : ∀ q, s.heap.size ≤ q → A q) (hn : ¬ n < 0) (hN : n.toNatClampNeg = N) (hb : N < 1000000) (hR : cells + 1 ≤ R.cells ∧ slots + N ≤ R.slots) (hdg : decode cc pc = .ok (.newarray .long, 2))
    (kk : ∀ (q : Nat) (H1 : Heap), JNW D A s.heap (ws ++ [(q, .inl (ty 4, N, .inr (.inl (fun _ => 0))))]) H1 locs → W p l e R s m args below meth c H1 locs (cells + 1) (slots + N) Q (F0 m (pc + 2) ls (.ref q :: rest))) : W p l e R s m args below meth c H locs cells slots Q (F0 m pc ls (.int n :: rest)) := by
  refine va_newa jn.1 jn.2.1 (atype := .long) (jn.2.2.2.2.1 _ wd_8_59) rfl jn.2.2.2.2.2.1 w.1 w.2.1 w.2.2 hA (a0 := (N, .inr (.inl (fun _ => 0)))) (fun cA => rfl) hn hN (by show N * 8 ≤ 536870912; omega) hR.1 hR.2 hdg (fun q cA H1 hK1 hP hD hS => ?_)
  have h1 : s.vm.findClass ("[" ++ (FieldType.long).toString) = some cA := (hK1.2 6 (cA, .long) rfl).2
  have h2 : s.vm.findClass ("[" ++ (FieldType.long).toString) = some (ty 4) := (jn.2.2.2.2.2.1.2 4 (ty 4, .long) rfl).2
  have h3 : cA = ty 4 := Option.some.inj (h1.symm.trans h2)
  subst h3
  exact kk q H1 ⟨hP, hD, hS⟩
theorem jn_newd {n : Int32} {N : Nat} (jn : JNC D ty p s m args c cc nL own) (w : JNW D A s.heap ws H locs) (hA : ∀ q, s.heap.size ≤ q → A q) (hn : ¬ n < 0) (hN : n.toNatClampNeg = N) (hb : N < 1000000) (hR : cells + 1 ≤ R.cells ∧ slots + N ≤ R.slots) (hdg : decode cc pc = .ok (.newarray .double, 2))
    (kk : ∀ (q : Nat) (H1 : Heap), JNW D A s.heap (ws ++ [(q, .inl (ty 5, N, .inr (.inr (.inr (.inl (fun _ => 0))))))]) H1 locs → W p l e R s m args below meth c H1 locs (cells + 1) (slots + N) Q (F0 m (pc + 2) ls (.ref q :: rest))) : W p l e R s m args below meth c H locs cells slots Q (F0 m pc ls (.int n :: rest)) := by
  refine va_newa jn.1 jn.2.1 (atype := .double) (jn.2.2.2.2.1 _ wd_8_60) rfl jn.2.2.2.2.2.1 w.1 w.2.1 w.2.2 hA (a0 := (N, .inr (.inr (.inr (.inl (fun _ => 0)))))) (fun cA => rfl) hn hN (by show N * 8 ≤ 536870912; omega) hR.1 hR.2 hdg (fun q cA H1 hK1 hP hD hS => ?_)
  have h1 : s.vm.findClass ("[" ++ (FieldType.double).toString) = some cA := (hK1.2 6 (cA, .double) rfl).2
  have h2 : s.vm.findClass ("[" ++ (FieldType.double).toString) = some (ty 5) := (jn.2.2.2.2.2.1.2 5 (ty 5, .double) rfl).2
  have h3 : cA = ty 5 := Option.some.inj (h1.symm.trans h2)
  subst h3
  exact kk q H1 ⟨hP, hD, hS⟩
end JNR2
theorem bX10 : ∀ j, j < 61 → defaultValue (tyX10 j) = vp_V [.int 0, .null, .null, .int 0, .int 0, .null, .int 0, .null, .null, .null, .int 0, .int 0, .null, .null, .int 0, .null, .int 0, .int 0, .int 0, .null, .null, .null, .int 0, .null, .null, .int 0, .null, .int 0, .null, .int 0, .null, .int 0, .null, .int 0, .null, .int 0, .null, .null, .int 0, .null, .int 0, .null, .int 0, .null, .int 0, .null, .null, .null, .int 0, .null, .int 0, .int 0, .null, .int 0, .null, .null, .int 0, .null, .int 0, .int 0, .null] j := fun j hj => match j, hj with
  | 0, _ => rfl
  | 1, _ => rfl
  | 2, _ => rfl
  | 3, _ => rfl
  | 4, _ => rfl
  | 5, _ => rfl
  | 6, _ => rfl
  | 7, _ => rfl
  | 8, _ => rfl
  | 9, _ => rfl
  | 10, _ => rfl
  | 11, _ => rfl
  | 12, _ => rfl
  | 13, _ => rfl
  | 14, _ => rfl
  | 15, _ => rfl
  | 16, _ => rfl
  | 17, _ => rfl
  | 18, _ => rfl
  | 19, _ => rfl
  | 20, _ => rfl
  | 21, _ => rfl
  | 22, _ => rfl
  | 23, _ => rfl
  | 24, _ => rfl
  | 25, _ => rfl
  | 26, _ => rfl
  | 27, _ => rfl
  | 28, _ => rfl
  | 29, _ => rfl
  | 30, _ => rfl
  | 31, _ => rfl
  | 32, _ => rfl
  | 33, _ => rfl
  | 34, _ => rfl
  | 35, _ => rfl
  | 36, _ => rfl
  | 37, _ => rfl
  | 38, _ => rfl
  | 39, _ => rfl
  | 40, _ => rfl
  | 41, _ => rfl
  | 42, _ => rfl
  | 43, _ => rfl
  | 44, _ => rfl
  | 45, _ => rfl
  | 46, _ => rfl
  | 47, _ => rfl
  | 48, _ => rfl
  | 49, _ => rfl
  | 50, _ => rfl
  | 51, _ => rfl
  | 52, _ => rfl
  | 53, _ => rfl
  | 54, _ => rfl
  | 55, _ => rfl
  | 56, _ => rfl
  | 57, _ => rfl
  | 58, _ => rfl
  | 59, _ => rfl
  | 60, _ => rfl
  | k + 61, h => absurd h (by omega)
/-- the model: its rows behind it -/
def yt_M : JY := (10 :: [100, 100, 102, 100, 100, 100, 100, 100, 100, 100, 100, 100, 100, 100, 100, 100, 100, 100, 100, 101, 101, 100, 100, 100, 100, 100, 100, 100, 100, 100, 100, 100, 100], fun o k => if o = 0 then ([0, 1, 2, 0, 0, 3, 0, 4, 5, 6, 0, 0, 7, 8, 0, 9, 0, 0, 0, 10, 11, 12, 0, 13, 14, 0, 15, 0, 16, 0, 17, 0, 18, 0, 19, 0, 20, 21, 0, 22, 0, 23, 0, 24, 0, 25, 26, 27, 0, 28, 0, 0, 29, 0, 30, 31, 0, 32, 0, 0, 33] : List Nat).getD k 0 else o, fun o => ([0, 96, 4, 50, 8, 8, 192, 96, 4, 2000, 625, 24, 24, 24, 24, 24, 24, 24, 72, 120, 24, 24, 24, 24, 24, 24, 24, 700, 100, 150, 24, 24, 50, 50] : List Nat).getD o 0)
def mt_M : JM := fun o k => if o = 0 ∧ k = 4 then 1 else 0
theorem c_X10_init {D : va_G} {ty : Nat → ClassId} {l : Launch} {a sz : Nat} : JN D ty l yX10_init cX10_init 1 1 12 33 4709 10 a sz [.int 0, .null, .null, .int 0, .int 0, .null, .int 0, .null, .null, .null, .int 0, .int 0, .null, .null, .int 0, .null, .int 0, .int 0, .int 0, .null, .null, .null, .int 0, .null, .null, .int 0, .null, .int 0, .null, .int 0, .null, .int 0, .null, .int 0, .null, .int 0, .null, .null, .int 0, .null, .int 0, .null, .int 0, .null, .int 0, .null, .null, .null, .int 0, .null, .int 0, .int 0, .null, .int 0, .null, .null, .int 0, .null, .int 0, .int 0, .null] [] yt_M mt_M := by
  sorry

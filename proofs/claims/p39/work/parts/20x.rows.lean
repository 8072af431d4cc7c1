/-! ===== rows of the law: a script's int, a call that tells a throw by a number, room ===== -/
abbrev jw_side (own : String) (index : Nat) (y : MethodName) (b : ByteArray) (n : Nat) (hh : List (Nat × Nat × Nat × Nat)) (k : Nat) : Prop := Cond.codeWith y b n (some .int) hh ∈ jwd ∧ Cond.initialized y.cls ∈ jwd ∧ Cond.methodLink own index y ∈ jwd ∧ (y.cls ≠ "java/lang/invoke/MethodHandle" ∧ y.cls ≠ "java/lang/invoke/VarHandle" ∧ (parseMethodDescriptor y.desc).map (fun d => d.parameters.length) = some k) ∧ Cond.static y ∈ jwd
theorem j_goodw {y : MethodName} {b : ByteArray} {n : Nat} {hh : List (Nat × Nat × Nat × Nat)} (h : Cond.codeWith y b n (some .int) hh ∈ jwd) : GoodIn jwd (j_wsW y b n hh) := fun w hw => (List.mem_cons.mp hw).elim (fun e => by subst e; exact ⟨h, Or.inl rfl⟩) (fun h => j_good w h)
theorem j_hRG {R : Room} {F L fr lo n K S : Nat} (hf : F ≤ R.frames) (hl : L ≤ R.locals) (hc : K ≤ R.cells) (hs : S ≤ R.slots) (h1 : Nat.ble (fr + 1) F = true) (h2 : Nat.ble (8 + (n + 11) + lo) L = true) : fr + 1 ≤ R.frames ∧ 8 + (n + 11) + lo ≤ R.locals ∧ K + 0 ≤ R.cells ∧ S + 0 ≤ R.slots :=
  ⟨Nat.le_trans (Nat.le_of_ble_eq_true h1) hf, Nat.le_trans (Nat.le_of_ble_eq_true h2) hl, hc, hs⟩
theorem j_hRH {R : Room} {F L fr lo n K S mc ms : Nat} (hf : F ≤ R.frames) (hl : L ≤ R.locals) (hc : K + mc ≤ R.cells) (hs : S + ms ≤ R.slots) (h1 : Nat.ble (fr + 1) F = true) (h2 : Nat.ble (8 + (n + 11) + lo) L = true) : fr + 1 ≤ R.frames ∧ 8 + (n + 11) + lo ≤ R.locals ∧ K + mc ≤ R.cells ∧ S + ms ≤ R.slots :=
  ⟨Nat.le_trans (Nat.le_of_ble_eq_true h1) hf, Nat.le_trans (Nat.le_of_ble_eq_true h2) hl, hc, hs⟩
/-- what at answers: the script's int at a place, or 0 -/
def sc_at (L : Nat) (xs : Nat → Int32) (k : Int32) : Int32 := if Int32.ofNat L ≤ k then 0 else xs k.toNatClampNeg
def sc_P (b L sz : Nat) (xs : Nat → Int32) : State → Prop := fun U => U.heap.size = sz ∧ va_X b L xs U U.heap ∧ b < U.heap.size
theorem sc_blind {b L sz : Nat} {xs : Nat → Int32} {As : List Value} : FrameBlind (va_Pc As (sc_P b L sz xs)) := by
  intro a U g mk q
  obtain ⟨q0, q1, q2, q3⟩ := q
  exact ⟨q0, q1, va_X.moved (u := U) (U := U.calling g mk a) (Vm.Alike.refl U.vm) q2, q3⟩
theorem sc_in {L : Nat} {k : Int32} (hL : L ≤ 260) (h0 : ¬ k < 0) (h : ¬ Int32.ofNat L ≤ k) : vp_in k L := by
  rw [vp_in_iff]
  have e1 : (Int32.ofNat L).toInt = (L : Int) := nI_toInt (by omega)
  have e2 : (0 : Int32).toInt = 0 := rfl
  rw [Int32.le_iff_toInt_le, e1] at h
  rw [Int32.lt_iff_toInt_lt, e2] at h0
  omega
theorem c_L_at {l : Launch} {b L sz : Nat} {xs : Nat → Int32} {k : Int32} (hL : L ≤ 260) (hk : ¬ k < 0) : Met l yL_at (j_ws yL_at cL_at 2 (some .int)) (j_rm 0 0 0 0) (va_Pc [.ref b, .int k] (sc_P b L sz xs)) (va_Qi (fun (v : Int32) (_ : Unit) => v = sc_at L xs k) (fun _ _ => True) (fun q => sz ≤ q)) 0 0 (fun q => sz ≤ q) := by
  refine Met.ofW (cc := cL_at) (maxL := 2) (ret := some .int) (by decide) rfl ?_
  intro p e s m args below meth c s₁ B hml hv
  obtain ⟨rfl, hsz, hX, hbl⟩ := hv
  subst hsz
  have hx := B.exec
  have hb := B.bytes
  have hbA : ¬ (fun q : Nat => s.heap.size ≤ q) b := Nat.not_le.mpr hbl
  have hl := lv_entry ([.ref b, .int k]) (n := 2) (Nat.le_of_ble_eq_true rfl)
  rw [lg_entry_eq]
  generalize (lg_sl ([.ref b, .int k]) ++ List.replicate (2 - (lg_sl ([.ref b, .int k])).length) Slot.unset).toArray = ls at hl ⊢
  have hl : lv_has ls 2 [(0, .ref b), (1, .int k)] := hl
  have hS : va_S (fun q : Nat => s.heap.size ≤ q) s.heap s.heap [] := va_S.rf
  refine lv_iload_n hx hb dL_at_0 rfl (lv_at hl 1 rfl) ?_
  refine lv_aload_n hx hb dL_at_1 rfl (lv_at hl 0 rfl) ?_
  refine va_slen hx hb hX hbl hbA hS dL_at_2 ?_
  refine lv_icmp_ge (tgt := 12) hx hb dL_at_3 (by decide) (fun h => ?_) (fun h => ?_)
  · have e : sc_at L xs k = 0 := if_pos h
    refine lv_iconst (v := 0) hx hb dL_at_12 (by decide) ?_
    exact W.iret hx hb B.returns (fun t ht hW => ⟨⟨0, (), rfl, e.symm, trivial⟩, hS.F ht⟩) hS.2.2 dL_at_13
  · have e : sc_at L xs k = xs k.toNatClampNeg := if_neg h
    refine lv_aload_n hx hb dL_at_6 rfl (lv_at hl 0 rfl) ?_
    refine lv_iload_n hx hb dL_at_7 rfl (lv_at hl 1 rfl) ?_
    refine va_sld hx hb hX hbl hbA hS (sc_in hL hk h) dL_at_8 ?_
    refine lv_goto (tgt := 13) hx hb dL_at_9 (by decide) ?_
    exact W.iret hx hb B.returns (fun t ht hW => ⟨⟨_, (), rfl, e.symm, trivial⟩, hS.F ht⟩) hS.2.2 dL_at_13
section LWR
variable {p : Program} {l : Launch} {e : Env} {R : Room} {s : State} {m : MethodId} {args : Array Value} {below : List Frame} {meth : Method} {c : Code} {H : Heap} {locs : List Loc} {cells slots : Nat} {Q : State → Prop}
variable {pc : Nat} {ls : Array Slot} {rest : List Value} {D : va_G} {Y : JY} {ty : Nat → ClassId} {ad : Nat → Nat} {A : Nat → Prop} {M : JM} {L b i : Nat} {xs : Nat → Int32}
theorem jl_at {k : Int32} {cc : ByteArray} {nL index : Nat} {own : String} (rest : List Value) (jc : JC D Y ty p s m args c cc nL own) (hX : va_X b L xs s s.heap) (hbl : b < s.heap.size) (hbA : ¬ A b) (w : JW D Y ty ad A s.heap M H locs) (hA : ∀ q, s.heap.size ≤ q → A q) (hL : L ≤ 260) (hk : ¬ k < 0)
    (sd : j_sideS own index yL_at cL_at 2 (some .int) 2) (hls : ls.size = nL) (hR : 0 + 1 ≤ R.frames ∧ 8 + (2 + 11) + 0 ≤ R.locals ∧ cells + 0 ≤ R.cells ∧ slots + 0 ≤ R.slots) (hr8 : (rest.map fun v => v.category).sum ≤ 8) (hdg : decode cc pc = .ok (.invokestatic index, 3))
    (kk : ∀ (H1 : Heap) (locs1 : List Loc), JW D Y ty ad A s.heap M H1 locs1 → W p l e R s m args below meth c H1 locs1 cells slots Q (F0 m (pc + 3) ls (.int (sc_at L xs k) :: rest))) : W p l e R s m args below meth c H locs cells slots Q (F0 m pc ls (.int k :: .ref b :: rest)) := by
  have hX1 : va_X b L xs s H := hX.kept (w.2.2.2.1 b hbl hbA)
  have hf : ∀ q, H.size ≤ q → A q := fun q h => hA q (Nat.le_trans w.2.2.1 h)
  refine va_calli (va_runS (As := [.ref b, .int k]) (rest := rest) (Ts := jwd) ⟨jc.1, jc.2.1, jc.2.2.1, jc.2.2.2.1, jc.2.2.2.2.1⟩ (c_L_at (b := b) (L := L) (sz := H.size) (xs := xs) hL hk) ⟨j_cwB jc.2.2.2.2.1 sd.1.1 sd.1.2.1 sd.1.2.2.1 sd.1.2.2.2 ⟨hR.1, hR.2.1⟩, jc.2.2.2.2.1 _ sd.2⟩
    ⟨sc_blind, fun U hU hW => ⟨rfl, by rw [hU], by rw [hU]; exact hX1.moved hW.alike, by rw [hU]; exact Nat.lt_of_lt_of_le hbl w.2.2.1⟩⟩ rfl rfl hls rfl (lv_room hr8) hdg hR.2.2) w.2.2 (fun q _ h => hf q h) (fun q h => hf q h) (fun r1 u t H1 locs1 ht hvm hw hB hz hk9 hS => ?_)
  subst hw
  exact kk H1 locs1 ⟨w.1.kept (fun k q hq => hk9 _ (vx_lt w.1 hq) (Nat.not_le.mpr (vx_lt w.1 hq))), w.2.1, hS⟩
theorem jw_call {r : Int32} {M' : JM} {cc : ByteArray} {nL index : Nat} {own : String} {y : MethodName} {bb : ByteArray} {n : Nat} {hh : List (Nat × Nat × Nat × Nat)} {fr lo mc ms : Nat} (As rest : List Value) {st0 : List Value} (jc : JC D Y ty p s m args c cc nL own) (jx : JX A s s.heap) (w : JW D Y ty ad A s.heap M H locs) (hA : ∀ q, s.heap.size ≤ q → A q)
    (hM : JMw D Y ty ad H.size l y bb n hh fr lo mc ms As M r M') (sd : jw_side own index y bb n hh As.length) (hst : As.reverse ++ rest = st0) (hls : ls.size = nL) (hR : fr + 1 ≤ R.frames ∧ 8 + (n + 11) + lo ≤ R.locals ∧ cells + mc ≤ R.cells ∧ slots + ms ≤ R.slots) (hr8 : (rest.map fun v => v.category).sum ≤ 8) (hdg : decode cc pc = .ok (.invokestatic index, 3))
    (kk : ∀ (H1 : Heap) (locs1 : List Loc), JW D Y ty ad A s.heap M' H1 locs1 → W p l e R s m args below meth c H1 locs1 (cells + mc) (slots + ms) Q (F0 m (pc + 3) ls (.int r :: rest))) : W p l e R s m args below meth c H locs cells slots Q (F0 m pc ls st0) := by
  refine va_calli (vx_runSW (As := As) (rest := rest) (Ts := jwd) ⟨jc.1, jc.2.1, jc.2.2.1, jc.2.2.2.1, jc.2.2.2.2.1⟩ hM ⟨⟨rfl, rfl, hR.1, hR.2.1, pay_in jc.2.2.2.2.1 (j_goodw sd.1), List.mem_cons_self⟩, jc.2.2.2.2.1 _ sd.1, jc.2.2.2.2.1 _ sd.2.1, ⟨sd.2.2.2.1.1, sd.2.2.2.1.2.1⟩, fun sig h => by
    have h2 := sd.2.2.2.1.2.2
    rw [h] at h2
    exact (Option.some.inj h2).symm, jc.2.2.2.2.1 _ sd.2.2.1, jc.2.2.2.2.1 _ sd.2.2.2.2⟩ (j_preST jc jx w hA As) rfl rfl hls hst.symm (lv_room hr8) hdg hR.2.2) w.2.2 (fun q _ h => j_AA w hA q h) (fun q h => j_AA w hA q h) (fun r1 u t H1 locs1 ht hvm hw hB hz hk hS => ?_)
  obtain ⟨rfl, rfl⟩ := hw
  exact kk H1 locs1 (j_back w ht hB hS)
end LWR

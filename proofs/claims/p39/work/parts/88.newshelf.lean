/-! ===== constructors: Shelf ===== -/
theorem arrV_cong {cA : ClassId} {n : Nat} {f g : Nat → Value} (h : ∀ i, i < n → f i = g i) : arrV cA n f = arrV cA n g := by
  have hs : (arrV cA n f).slots = (arrV cA n g).slots := by
    apply Array.ext_getElem?
    intro i
    by_cases hi : i < n
    · rw [arrV_read _ _ hi, arrV_read _ _ hi, h i hi]
    · rw [Array.getElem?_eq_none (by rw [arrV_size]; omega), Array.getElem?_eq_none (by rw [arrV_size]; omega)]
  have e : ∀ F : Nat → Value, arrV cA n F = ({ cls := cA, slots := (arrV cA n F).slots, vm := .none } : Cell) := fun F => rfl
  rw [e f, e g, hs]
theorem va_P_arr {D : va_G} {ws1 ws2 : va_W} {q n : Nat} {cA : ClassId} {f g : Nat → Option Nat} {H : Heap} (h : ∀ i, i < n → f i = g i) (hP : va_P D jcl (ws1 ++ (q, .inl (cA, n, .inr (.inr (.inr (.inr f))))) :: ws2) H) : va_P D jcl (ws1 ++ (q, .inl (cA, n, .inr (.inr (.inr (.inr g))))) :: ws2) H := by
  intro k z hz
  rcases Nat.lt_trichotomy k ws1.length with c | c | c
  · rw [List.getElem?_append_left c] at hz
    exact hP k z (by rw [List.getElem?_append_left c]; exact hz)
  · subst c
    rw [List.getElem?_append_right (Nat.le_refl _), Nat.sub_self] at hz
    cases hz
    have h1 : H[q]? = some (vp_cell cA (n, .inr (.inr (.inr (.inr f))))) := hP ws1.length (q, .inl (cA, n, .inr (.inr (.inr (.inr f))))) (by simp)
    show H[q]? = some (vp_cell cA (n, .inr (.inr (.inr (.inr g)))))
    rw [h1, vp_cell_q, vp_cell_q, arrV_cong (fun i hi => by rw [h i hi])]
  · obtain ⟨d, rfl⟩ : ∃ d, k = ws1.length + (d + 1) := ⟨k - ws1.length - 1, by omega⟩
    rw [List.getElem?_append_right (by omega), Nat.add_sub_cancel_left] at hz
    exact hP (ws1.length + (d + 1)) z (by rw [List.getElem?_append_right (by omega), Nat.add_sub_cancel_left]; exact hz)
/-- the layout of a Shelf of n places -/
def yt_S (n : Nat) : JY := (7 :: 4 :: 100 :: 103 :: yt_kd (List.replicate n (yt_L 24, mt_0)), fun o k => if o = 0 then (if k = 0 then 3 else 1) else if o < 3 then 2 else if o = 3 then (if k < n then 4 + 2 * k else 0) else if o % 2 = 0 then o + 1 else o, fun o => if o = 3 then n else if o = 2 then 0 else if o % 2 = 1 then 24 else 0)
section JNQ
variable {p : Program} {l : Launch} {e : Env} {R : Room} {s : State} {m : MethodId} {args : Array Value} {below : List Frame} {meth : Method} {c : Code} {H : Heap} {locs : List Loc} {cells slots : Nat} {Q : State → Prop}
variable {cc : ByteArray} {nL pc : Nat} {own : String} {ls : Array Slot} {rest : List Value} {D : va_G} {ty : Nat → ClassId} {A : Nat → Prop} {ws : va_W} {index : Nat}
theorem jn_newq {n : Int32} {N : Nat} (jn : JNC D ty p s m args c cc nL own) (w : JNW D A s.heap ws H locs) (hA : ∀ q, s.heap.size ≤ q → A q) (hcl : Cond.classLink own index RX4 ∈ jwd) (hn : ¬ n < 0) (hN : n.toNatClampNeg = N) (hb : N < 1000000) (hR : cells + 1 ≤ R.cells ∧ slots + N ≤ R.slots) (hdg : decode cc pc = .ok (.anewarray index, 3))
    (kk : ∀ (q : Nat) (H1 : Heap), JNW D A s.heap (ws ++ [(q, .inl (ty 3, N, .inr (.inr (.inr (.inr (fun _ => none))))))]) H1 locs → W p l e R s m args below meth c H1 locs (cells + 1) (slots + N) Q (F0 m (pc + 3) ls (.ref q :: rest))) : W p l e R s m args below meth c H locs cells slots Q (F0 m pc ls (.int n :: rest)) := by
  refine va_newq jn.1 jn.2.1 jn.2.2.2.1 (jn.2.2.2.2.1 _ hcl) jn.2.2.2.2.2.2.1 jn.2.2.2.2.2.1 w.1 w.2.1 w.2.2 hA hn hN (by omega) hR.1 hR.2 hdg (fun q cA H1 hK1 hP hD hS => ?_)
  obtain ⟨kA, comp, -, -, -, h1⟩ := (hK1.2 4 (cA, .object RX4) rfl).2
  obtain ⟨kB, comp2, -, -, -, h2⟩ := (jn.2.2.2.2.2.1.2 3 (ty 3, .object RX4) rfl).2
  have h3 : cA = ty 3 := Option.some.inj (h1.symm.trans h2)
  subst h3
  exact kk q H1 ⟨hP, hD, hS⟩
theorem jn_alenq {a0 n : Nat} {f : Nat → Option Nat} (q0 : Nat) (jn : JNC D ty p s m args c cc nL own) (w : JNW D A s.heap ws H locs) (ha : ws[q0]? = some (a0, .inl (ty 3, n, .inr (.inr (.inr (.inr f)))))) (hdg : decode cc pc = .ok (.arraylength, 1))
    (kk : W p l e R s m args below meth c H locs cells slots Q (F0 m (pc + 1) ls (.int (nI n) :: rest))) : W p l e R s m args below meth c H locs cells slots Q (F0 m pc ls (.ref a0 :: rest)) :=
  va_alen (D := D) (cl := jcl) (tys := j_tys ty) (x := (n, .inr (.inr (.inr (.inr f))))) jn.1 jn.2.1 jn.2.2.2.2.2.1 w.1 q0 3 ha rfl rfl hdg kk
theorem jn_ast {a0 n v : Nat} {f : Nat → Option Nat} {vs : List Value} {i : Int32} (q0 qk : Nat) (jn : JNC D ty p s m args c cc nL own) (w : JNW D A s.heap ws H locs) (ha : ws[q0]? = some (a0, .inl (ty 3, n, .inr (.inr (.inr (.inr f)))))) (hv : ws[qk]? = some (v, .inr (4, vs))) (hi : vp_in i n) (hdg : decode cc pc = .ok (.aastore, 1))
    (kk : ∀ (H1 : Heap) (locs1 : List Loc), JNW D A s.heap (ws.set q0 (a0, .inl (ty 3, n, .inr (.inr (.inr (.inr (va_up f i.toNatClampNeg (some v)))))))) H1 locs1 → W p l e R s m args below meth c H1 locs1 cells slots Q (F0 m (pc + 1) ls rest)) : W p l e R s m args below meth c H locs cells slots Q (F0 m pc ls (.ref v :: .int i :: .ref a0 :: rest)) :=
  va_astq (r := (RX4, TX4, 2)) jn.1 jn.2.1 jn.2.2.2.2.2.1 w.1 w.2.1 w.2.2 q0 3 qk 4 ha rfl hv rfl hi hdg (fun H1 locs1 hP hD hS => kk H1 locs1 ⟨hP, hD, hS⟩)
end JNQ
theorem bX7 : ∀ j, j < 2 → defaultValue (tyX7 j) = vp_V [.null, .null] j := fun j hj => match j, hj with
  | 0, _ => rfl
  | 1, _ => rfl
  | k + 2, h => absurd h (by omega)
set_option maxRecDepth 20000 in
theorem c_X7_init_4 {D : va_G} {ty : Nat → ClassId} {l : Launch} {a sz : Nat} : JN D ty l yX7_init cX7_init 3 2 33 11 110 7 a sz [.null, .null] [.int (nI 4)] (yt_S 4) mt_0 := by
  refine jn_of (ix := 3) (by decide) rfl (Nat.le_of_ble_eq_true rfl) dX7_init_0 dX7_init_1 wd_3_180 (by decide) (by decide) (fun p e s m below meth c args R Q A hRf hRl hRc hRs hnm jn hA w kr ls hl => ?_)
  have hx := jn.1
  have hb := jn.2.1
  have hl : lv_has ls 3 [(0, .ref a), (1, .int (nI 4))] := hl
  refine lv_aload_n hx hb dX7_init_4 rfl (lv_at hl 0 rfl) ?_
  refine jn_new (C := RX4) (T := TX4) (N := 2) (ci := 4) (fs := [.null, .int 0]) jn w hA rfl jin_4 tyX4 tyX4_ok wd_3_181 wd_3_182 wd_1_3 bX4 ⟨by omega, by omega⟩ dX7_init_5 (fun qN HN vN => ?_)
  refine lv_dup hx hb dX7_init_8 rfl ?_
  refine lv_iconst (v := nI 0) hx hb dX7_init_9 (by decide) ?_
  refine jn_call (As := [.int (nI 0)]) (rest := [.ref qN, .ref a]) jn vN hA (c_X4_init (n := 0) (by decide)) ⟨⟨wd_3_185, wd_1_3, wd_3_183, by decide⟩, rfl, wd_3_184⟩ rfl hl.1 ⟨by omega, by omega, by omega, by omega⟩ (Nat.le_of_ble_eq_true rfl) dX7_init_10 (fun adN HM LM eN uN => ?_)
  subst eN
  refine jn_putF (C := RX7) (T := TX7) (N := 2) (k := 1) (ci := 7) jn hnm uN rfl jin_7 tyX7 tyX7_ok nmX7 (by decide) wd_3_197 rfl rfl rfl rfl (Nat.le_of_ble_eq_true rfl) dX7_init_13 (fun H1 L1 w1 => ?_)
  refine lv_aload_n hx hb dX7_init_16 rfl (lv_at hl 0 rfl) ?_
  refine lv_iload_n hx hb dX7_init_17 rfl (lv_at hl 1 rfl) ?_
  refine lv_if_le (tgt := 25) hx hb dX7_init_18 (by decide) (fun c1 => absurd c1 (by decide)) (fun _ => ?_)
  refine lv_iload_n hx hb dX7_init_21 rfl (lv_at hl 1 rfl) ?_
  refine lv_goto (tgt := 26) hx hb dX7_init_22 (by decide) ?_
  refine jn_newq (N := 4) jn w1 hA wd_3_181 (by decide) (by decide) (by decide) ⟨by omega, by omega⟩ dX7_init_26 (fun q H2 w2 => ?_)
  have w2 : JNW D A s.heap ((a, .inr (7, [.null, .ref (adN 0)])) :: (j_w (yt_L 0) ty adN mt_0 ++ [(q, .inl (ty 3, 4, .inr (.inr (.inr (.inr (fun _ => none))))))])) H2 L1 := w2
  refine jn_putF (C := RX7) (T := TX7) (N := 2) (k := 0) (ci := 7) jn hnm w2 rfl jin_7 tyX7 tyX7_ok nmX7 (by decide) wd_3_196 rfl rfl rfl rfl (Nat.le_of_ble_eq_true rfl) dX7_init_29 (fun H3 L3 z0 => ?_)
  refine lv_iconst (v := nI 0) hx hb dX7_init_32 (by decide) ?_
  refine lv_istore_n (lv' := [(2, .int (nI 0)), (0, .ref a), (1, .int (nI 4))]) hx hb dX7_init_33 rfl hl (by decide) rfl (fun ls hl => ?_)
  have z0 : JNW D A s.heap ((a, .inr (7, [.ref q, .ref (adN 0)])) :: (j_w (yt_L 0) ty adN mt_0 ++ [(q, .inl (ty 3, 4, .inr (.inr (.inr (.inr (fun _ => none))))))])) _ _ := z0
  refine lv_iload_n hx hb dX7_init_34 rfl (lv_at hl 0 rfl) ?_
  refine lv_aload_n hx hb dX7_init_35 rfl (lv_at hl 1 rfl) ?_
  refine jn_get (C := RX7) (T := TX7) (N := 2) (k := 0) (ci := 7) jn z0 rfl jin_7 (by decide) wd_3_196 rfl dX7_init_36 ?_
  refine jn_alenq 3 jn z0 rfl dX7_init_39 ?_
  refine lv_icmp_ge (tgt := 64) hx hb dX7_init_40 (by decide) (fun c1 => absurd c1 (by decide)) (fun _ => ?_)
  refine lv_aload_n hx hb dX7_init_43 rfl (lv_at hl 1 rfl) ?_
  refine jn_get (C := RX7) (T := TX7) (N := 2) (k := 0) (ci := 7) jn z0 rfl jin_7 (by decide) wd_3_196 rfl dX7_init_44 ?_
  refine lv_iload_n hx hb dX7_init_47 rfl (lv_at hl 0 rfl) ?_
  refine jn_new (C := RX4) (T := TX4) (N := 2) (ci := 4) (fs := [.null, .int 0]) jn z0 hA rfl jin_4 tyX4 tyX4_ok wd_3_181 wd_3_182 wd_1_3 bX4 ⟨by omega, by omega⟩ dX7_init_48 (fun q0 Ha0 v0 => ?_)
  refine lv_dup hx hb dX7_init_51 rfl ?_
  refine lv_bipush (v := nI 24) hx hb dX7_init_52 (by decide) ?_
  refine jn_call (As := [.int (nI 24)]) (rest := [.ref q0, .int (nI 0), .ref q]) jn v0 hA (c_X4_init (n := 24) (by decide)) ⟨⟨wd_3_185, wd_1_3, wd_3_183, by decide⟩, rfl, wd_3_184⟩ rfl hl.1 ⟨by omega, by omega, by omega, by omega⟩ (Nat.le_of_ble_eq_true rfl) dX7_init_54 (fun ad0 Hb0 Lb0 e0 u0 => ?_)
  subst e0
  have u0 : JNW D A s.heap ((a, .inr (7, [.ref q, .ref (adN 0)])) :: ((j_w (yt_L 0) ty adN mt_0 ++ [(q, .inl (ty 3, 4, .inr (.inr (.inr (.inr (fun _ => none))))))]) ++ j_w (yt_L 24) ty ad0 mt_0)) _ _ := u0
  refine jn_ast 3 4 jn u0 rfl rfl (by unfold vp_in; decide +kernel) dX7_init_57 (fun Hc0 Lc0 z1 => ?_)
  refine lv_iinc (v := nI 1) (lv' := [(2, .int (nI 1)), (0, .ref a), (1, .int (nI 4))]) hx hb dX7_init_58 hl (k := 0) rfl (by decide) (by decide) rfl (fun ls hl => ?_)
  refine lv_goto (tgt := 34) hx hb dX7_init_61 (by decide) ?_
  have z1 : JNW D A s.heap ((a, .inr (7, [.ref q, .ref (adN 0)])) :: ((j_w (yt_L 0) ty adN mt_0 ++ [(q, .inl (ty 3, 4, .inr (.inr (.inr (.inr (va_up (fun _ => none) 0 (some (ad0 0))))))))]) ++ j_w (yt_L 24) ty ad0 mt_0)) _ _ := z1
  refine lv_iload_n hx hb dX7_init_34 rfl (lv_at hl 0 rfl) ?_
  refine lv_aload_n hx hb dX7_init_35 rfl (lv_at hl 1 rfl) ?_
  refine jn_get (C := RX7) (T := TX7) (N := 2) (k := 0) (ci := 7) jn z1 rfl jin_7 (by decide) wd_3_196 rfl dX7_init_36 ?_
  refine jn_alenq 3 jn z1 rfl dX7_init_39 ?_
  refine lv_icmp_ge (tgt := 64) hx hb dX7_init_40 (by decide) (fun c1 => absurd c1 (by decide)) (fun _ => ?_)
  refine lv_aload_n hx hb dX7_init_43 rfl (lv_at hl 1 rfl) ?_
  refine jn_get (C := RX7) (T := TX7) (N := 2) (k := 0) (ci := 7) jn z1 rfl jin_7 (by decide) wd_3_196 rfl dX7_init_44 ?_
  refine lv_iload_n hx hb dX7_init_47 rfl (lv_at hl 0 rfl) ?_
  refine jn_new (C := RX4) (T := TX4) (N := 2) (ci := 4) (fs := [.null, .int 0]) jn z1 hA rfl jin_4 tyX4 tyX4_ok wd_3_181 wd_3_182 wd_1_3 bX4 ⟨by omega, by omega⟩ dX7_init_48 (fun q1 Ha1 v1 => ?_)
  refine lv_dup hx hb dX7_init_51 rfl ?_
  refine lv_bipush (v := nI 24) hx hb dX7_init_52 (by decide) ?_
  refine jn_call (As := [.int (nI 24)]) (rest := [.ref q1, .int (nI 1), .ref q]) jn v1 hA (c_X4_init (n := 24) (by decide)) ⟨⟨wd_3_185, wd_1_3, wd_3_183, by decide⟩, rfl, wd_3_184⟩ rfl hl.1 ⟨by omega, by omega, by omega, by omega⟩ (Nat.le_of_ble_eq_true rfl) dX7_init_54 (fun ad1 Hb1 Lb1 e1 u1 => ?_)
  subst e1
  have u1 : JNW D A s.heap ((a, .inr (7, [.ref q, .ref (adN 0)])) :: (((j_w (yt_L 0) ty adN mt_0 ++ [(q, .inl (ty 3, 4, .inr (.inr (.inr (.inr (va_up (fun _ => none) 0 (some (ad0 0))))))))]) ++ j_w (yt_L 24) ty ad0 mt_0) ++ j_w (yt_L 24) ty ad1 mt_0)) _ _ := u1
  refine jn_ast 3 6 jn u1 rfl rfl (by unfold vp_in; decide +kernel) dX7_init_57 (fun Hc1 Lc1 z2 => ?_)
  refine lv_iinc (v := nI 2) (lv' := [(2, .int (nI 2)), (0, .ref a), (1, .int (nI 4))]) hx hb dX7_init_58 hl (k := 0) rfl (by decide) (by decide) rfl (fun ls hl => ?_)
  refine lv_goto (tgt := 34) hx hb dX7_init_61 (by decide) ?_
  have z2 : JNW D A s.heap ((a, .inr (7, [.ref q, .ref (adN 0)])) :: (((j_w (yt_L 0) ty adN mt_0 ++ [(q, .inl (ty 3, 4, .inr (.inr (.inr (.inr (va_up (va_up (fun _ => none) 0 (some (ad0 0))) 1 (some (ad1 0))))))))]) ++ j_w (yt_L 24) ty ad0 mt_0) ++ j_w (yt_L 24) ty ad1 mt_0)) _ _ := z2
  refine lv_iload_n hx hb dX7_init_34 rfl (lv_at hl 0 rfl) ?_
  refine lv_aload_n hx hb dX7_init_35 rfl (lv_at hl 1 rfl) ?_
  refine jn_get (C := RX7) (T := TX7) (N := 2) (k := 0) (ci := 7) jn z2 rfl jin_7 (by decide) wd_3_196 rfl dX7_init_36 ?_
  refine jn_alenq 3 jn z2 rfl dX7_init_39 ?_
  refine lv_icmp_ge (tgt := 64) hx hb dX7_init_40 (by decide) (fun c1 => absurd c1 (by decide)) (fun _ => ?_)
  refine lv_aload_n hx hb dX7_init_43 rfl (lv_at hl 1 rfl) ?_
  refine jn_get (C := RX7) (T := TX7) (N := 2) (k := 0) (ci := 7) jn z2 rfl jin_7 (by decide) wd_3_196 rfl dX7_init_44 ?_
  refine lv_iload_n hx hb dX7_init_47 rfl (lv_at hl 0 rfl) ?_
  refine jn_new (C := RX4) (T := TX4) (N := 2) (ci := 4) (fs := [.null, .int 0]) jn z2 hA rfl jin_4 tyX4 tyX4_ok wd_3_181 wd_3_182 wd_1_3 bX4 ⟨by omega, by omega⟩ dX7_init_48 (fun q2 Ha2 v2 => ?_)
  refine lv_dup hx hb dX7_init_51 rfl ?_
  refine lv_bipush (v := nI 24) hx hb dX7_init_52 (by decide) ?_
  refine jn_call (As := [.int (nI 24)]) (rest := [.ref q2, .int (nI 2), .ref q]) jn v2 hA (c_X4_init (n := 24) (by decide)) ⟨⟨wd_3_185, wd_1_3, wd_3_183, by decide⟩, rfl, wd_3_184⟩ rfl hl.1 ⟨by omega, by omega, by omega, by omega⟩ (Nat.le_of_ble_eq_true rfl) dX7_init_54 (fun ad2 Hb2 Lb2 e2 u2 => ?_)
  subst e2
  have u2 : JNW D A s.heap ((a, .inr (7, [.ref q, .ref (adN 0)])) :: ((((j_w (yt_L 0) ty adN mt_0 ++ [(q, .inl (ty 3, 4, .inr (.inr (.inr (.inr (va_up (va_up (fun _ => none) 0 (some (ad0 0))) 1 (some (ad1 0))))))))]) ++ j_w (yt_L 24) ty ad0 mt_0) ++ j_w (yt_L 24) ty ad1 mt_0) ++ j_w (yt_L 24) ty ad2 mt_0)) _ _ := u2
  refine jn_ast 3 8 jn u2 rfl rfl (by unfold vp_in; decide +kernel) dX7_init_57 (fun Hc2 Lc2 z3 => ?_)
  refine lv_iinc (v := nI 3) (lv' := [(2, .int (nI 3)), (0, .ref a), (1, .int (nI 4))]) hx hb dX7_init_58 hl (k := 0) rfl (by decide) (by decide) rfl (fun ls hl => ?_)
  refine lv_goto (tgt := 34) hx hb dX7_init_61 (by decide) ?_
  have z3 : JNW D A s.heap ((a, .inr (7, [.ref q, .ref (adN 0)])) :: ((((j_w (yt_L 0) ty adN mt_0 ++ [(q, .inl (ty 3, 4, .inr (.inr (.inr (.inr (va_up (va_up (va_up (fun _ => none) 0 (some (ad0 0))) 1 (some (ad1 0))) 2 (some (ad2 0))))))))]) ++ j_w (yt_L 24) ty ad0 mt_0) ++ j_w (yt_L 24) ty ad1 mt_0) ++ j_w (yt_L 24) ty ad2 mt_0)) _ _ := z3
  refine lv_iload_n hx hb dX7_init_34 rfl (lv_at hl 0 rfl) ?_
  refine lv_aload_n hx hb dX7_init_35 rfl (lv_at hl 1 rfl) ?_
  refine jn_get (C := RX7) (T := TX7) (N := 2) (k := 0) (ci := 7) jn z3 rfl jin_7 (by decide) wd_3_196 rfl dX7_init_36 ?_
  refine jn_alenq 3 jn z3 rfl dX7_init_39 ?_
  refine lv_icmp_ge (tgt := 64) hx hb dX7_init_40 (by decide) (fun c1 => absurd c1 (by decide)) (fun _ => ?_)
  refine lv_aload_n hx hb dX7_init_43 rfl (lv_at hl 1 rfl) ?_
  refine jn_get (C := RX7) (T := TX7) (N := 2) (k := 0) (ci := 7) jn z3 rfl jin_7 (by decide) wd_3_196 rfl dX7_init_44 ?_
  refine lv_iload_n hx hb dX7_init_47 rfl (lv_at hl 0 rfl) ?_
  refine jn_new (C := RX4) (T := TX4) (N := 2) (ci := 4) (fs := [.null, .int 0]) jn z3 hA rfl jin_4 tyX4 tyX4_ok wd_3_181 wd_3_182 wd_1_3 bX4 ⟨by omega, by omega⟩ dX7_init_48 (fun q3 Ha3 v3 => ?_)
  refine lv_dup hx hb dX7_init_51 rfl ?_
  refine lv_bipush (v := nI 24) hx hb dX7_init_52 (by decide) ?_
  refine jn_call (As := [.int (nI 24)]) (rest := [.ref q3, .int (nI 3), .ref q]) jn v3 hA (c_X4_init (n := 24) (by decide)) ⟨⟨wd_3_185, wd_1_3, wd_3_183, by decide⟩, rfl, wd_3_184⟩ rfl hl.1 ⟨by omega, by omega, by omega, by omega⟩ (Nat.le_of_ble_eq_true rfl) dX7_init_54 (fun ad3 Hb3 Lb3 e3 u3 => ?_)
  subst e3
  have u3 : JNW D A s.heap ((a, .inr (7, [.ref q, .ref (adN 0)])) :: (((((j_w (yt_L 0) ty adN mt_0 ++ [(q, .inl (ty 3, 4, .inr (.inr (.inr (.inr (va_up (va_up (va_up (fun _ => none) 0 (some (ad0 0))) 1 (some (ad1 0))) 2 (some (ad2 0))))))))]) ++ j_w (yt_L 24) ty ad0 mt_0) ++ j_w (yt_L 24) ty ad1 mt_0) ++ j_w (yt_L 24) ty ad2 mt_0) ++ j_w (yt_L 24) ty ad3 mt_0)) _ _ := u3
  refine jn_ast 3 10 jn u3 rfl rfl (by unfold vp_in; decide +kernel) dX7_init_57 (fun Hc3 Lc3 z4 => ?_)
  refine lv_iinc (v := nI 4) (lv' := [(2, .int (nI 4)), (0, .ref a), (1, .int (nI 4))]) hx hb dX7_init_58 hl (k := 0) rfl (by decide) (by decide) rfl (fun ls hl => ?_)
  refine lv_goto (tgt := 34) hx hb dX7_init_61 (by decide) ?_
  have z4 : JNW D A s.heap ((a, .inr (7, [.ref q, .ref (adN 0)])) :: (((((j_w (yt_L 0) ty adN mt_0 ++ [(q, .inl (ty 3, 4, .inr (.inr (.inr (.inr (va_up (va_up (va_up (va_up (fun _ => none) 0 (some (ad0 0))) 1 (some (ad1 0))) 2 (some (ad2 0))) 3 (some (ad3 0))))))))]) ++ j_w (yt_L 24) ty ad0 mt_0) ++ j_w (yt_L 24) ty ad1 mt_0) ++ j_w (yt_L 24) ty ad2 mt_0) ++ j_w (yt_L 24) ty ad3 mt_0)) _ _ := z4
  refine lv_iload_n hx hb dX7_init_34 rfl (lv_at hl 0 rfl) ?_
  refine lv_aload_n hx hb dX7_init_35 rfl (lv_at hl 1 rfl) ?_
  refine jn_get (C := RX7) (T := TX7) (N := 2) (k := 0) (ci := 7) jn z4 rfl jin_7 (by decide) wd_3_196 rfl dX7_init_36 ?_
  refine jn_alenq 3 jn z4 rfl dX7_init_39 ?_
  refine lv_icmp_ge (tgt := 64) hx hb dX7_init_40 (by decide) (fun _ => ?_) (fun c1 => absurd (by decide) c1)
  have x1 : va_P D jcl (((a, .inr (7, [.ref q, .ref (adN 0)])) :: j_w (yt_L 0) ty adN mt_0) ++ (q, .inl (ty 3, 4, .inr (.inr (.inr (.inr (va_up (va_up (va_up (va_up (fun _ => none) 0 (some (ad0 0))) 1 (some (ad1 0))) 2 (some (ad2 0))) 3 (some (ad3 0)))))))) :: ((((([] : va_W) ++ j_w (yt_L 24) ty ad0 mt_0) ++ j_w (yt_L 24) ty ad1 mt_0) ++ j_w (yt_L 24) ty ad2 mt_0) ++ j_w (yt_L 24) ty ad3 mt_0)) _ := z4.1
  have x2 := va_P_arr (g := fun i => some (([a, adN 0, adN 1, q, ad0 0, ad0 1, ad1 0, ad1 1, ad2 0, ad2 1, ad3 0, ad3 1] : List Nat).getD (j_rf (yt_S 4) 3 i) 0)) (fun i hi => match i, hi with
    | 0, _ => rfl
    | 1, _ => rfl
    | 2, _ => rfl
    | 3, _ => rfl
    | k + 4, hi => absurd hi (by omega)) x1
  have w9 : JNW D A s.heap (j_w (yt_S 4) ty (fun k => ([a, adN 0, adN 1, q, ad0 0, ad0 1, ad1 0, ad1 1, ad2 0, ad2 1, ad3 0, ad3 1] : List Nat).getD k 0) mt_0) _ _ := ⟨x2, va_D_fst z4.2.1 rfl, z4.2.2⟩
  exact kr _ _ _ _ _ _ (fun k => ([a, adN 0, adN 1, q, ad0 0, ad0 1, ad1 0, ad1 1, ad2 0, ad2 1, ad3 0, ad3 1] : List Nat).getD k 0) rfl w9 rfl rfl dX7_init_64
set_option maxRecDepth 20000 in
theorem c_X7_init_8 {D : va_G} {ty : Nat → ClassId} {l : Launch} {a sz : Nat} : JN D ty l yX7_init cX7_init 3 2 33 19 218 7 a sz [.null, .null] [.int (nI 8)] (yt_S 8) mt_0 := by
  refine jn_of (ix := 3) (by decide) rfl (Nat.le_of_ble_eq_true rfl) dX7_init_0 dX7_init_1 wd_3_180 (by decide) (by decide) (fun p e s m below meth c args R Q A hRf hRl hRc hRs hnm jn hA w kr ls hl => ?_)
  have hx := jn.1
  have hb := jn.2.1
  have hl : lv_has ls 3 [(0, .ref a), (1, .int (nI 8))] := hl
  refine lv_aload_n hx hb dX7_init_4 rfl (lv_at hl 0 rfl) ?_
  refine jn_new (C := RX4) (T := TX4) (N := 2) (ci := 4) (fs := [.null, .int 0]) jn w hA rfl jin_4 tyX4 tyX4_ok wd_3_181 wd_3_182 wd_1_3 bX4 ⟨by omega, by omega⟩ dX7_init_5 (fun qN HN vN => ?_)
  refine lv_dup hx hb dX7_init_8 rfl ?_
  refine lv_iconst (v := nI 0) hx hb dX7_init_9 (by decide) ?_
  refine jn_call (As := [.int (nI 0)]) (rest := [.ref qN, .ref a]) jn vN hA (c_X4_init (n := 0) (by decide)) ⟨⟨wd_3_185, wd_1_3, wd_3_183, by decide⟩, rfl, wd_3_184⟩ rfl hl.1 ⟨by omega, by omega, by omega, by omega⟩ (Nat.le_of_ble_eq_true rfl) dX7_init_10 (fun adN HM LM eN uN => ?_)
  subst eN
  refine jn_putF (C := RX7) (T := TX7) (N := 2) (k := 1) (ci := 7) jn hnm uN rfl jin_7 tyX7 tyX7_ok nmX7 (by decide) wd_3_197 rfl rfl rfl rfl (Nat.le_of_ble_eq_true rfl) dX7_init_13 (fun H1 L1 w1 => ?_)
  refine lv_aload_n hx hb dX7_init_16 rfl (lv_at hl 0 rfl) ?_
  refine lv_iload_n hx hb dX7_init_17 rfl (lv_at hl 1 rfl) ?_
  refine lv_if_le (tgt := 25) hx hb dX7_init_18 (by decide) (fun c1 => absurd c1 (by decide)) (fun _ => ?_)
  refine lv_iload_n hx hb dX7_init_21 rfl (lv_at hl 1 rfl) ?_
  refine lv_goto (tgt := 26) hx hb dX7_init_22 (by decide) ?_
  refine jn_newq (N := 8) jn w1 hA wd_3_181 (by decide) (by decide) (by decide) ⟨by omega, by omega⟩ dX7_init_26 (fun q H2 w2 => ?_)
  have w2 : JNW D A s.heap ((a, .inr (7, [.null, .ref (adN 0)])) :: (j_w (yt_L 0) ty adN mt_0 ++ [(q, .inl (ty 3, 8, .inr (.inr (.inr (.inr (fun _ => none))))))])) H2 L1 := w2
  refine jn_putF (C := RX7) (T := TX7) (N := 2) (k := 0) (ci := 7) jn hnm w2 rfl jin_7 tyX7 tyX7_ok nmX7 (by decide) wd_3_196 rfl rfl rfl rfl (Nat.le_of_ble_eq_true rfl) dX7_init_29 (fun H3 L3 z0 => ?_)
  refine lv_iconst (v := nI 0) hx hb dX7_init_32 (by decide) ?_
  refine lv_istore_n (lv' := [(2, .int (nI 0)), (0, .ref a), (1, .int (nI 8))]) hx hb dX7_init_33 rfl hl (by decide) rfl (fun ls hl => ?_)
  have z0 : JNW D A s.heap ((a, .inr (7, [.ref q, .ref (adN 0)])) :: (j_w (yt_L 0) ty adN mt_0 ++ [(q, .inl (ty 3, 8, .inr (.inr (.inr (.inr (fun _ => none))))))])) _ _ := z0
  refine lv_iload_n hx hb dX7_init_34 rfl (lv_at hl 0 rfl) ?_
  refine lv_aload_n hx hb dX7_init_35 rfl (lv_at hl 1 rfl) ?_
  refine jn_get (C := RX7) (T := TX7) (N := 2) (k := 0) (ci := 7) jn z0 rfl jin_7 (by decide) wd_3_196 rfl dX7_init_36 ?_
  refine jn_alenq 3 jn z0 rfl dX7_init_39 ?_
  refine lv_icmp_ge (tgt := 64) hx hb dX7_init_40 (by decide) (fun c1 => absurd c1 (by decide)) (fun _ => ?_)
  refine lv_aload_n hx hb dX7_init_43 rfl (lv_at hl 1 rfl) ?_
  refine jn_get (C := RX7) (T := TX7) (N := 2) (k := 0) (ci := 7) jn z0 rfl jin_7 (by decide) wd_3_196 rfl dX7_init_44 ?_
  refine lv_iload_n hx hb dX7_init_47 rfl (lv_at hl 0 rfl) ?_
  refine jn_new (C := RX4) (T := TX4) (N := 2) (ci := 4) (fs := [.null, .int 0]) jn z0 hA rfl jin_4 tyX4 tyX4_ok wd_3_181 wd_3_182 wd_1_3 bX4 ⟨by omega, by omega⟩ dX7_init_48 (fun q0 Ha0 v0 => ?_)
  refine lv_dup hx hb dX7_init_51 rfl ?_
  refine lv_bipush (v := nI 24) hx hb dX7_init_52 (by decide) ?_
  refine jn_call (As := [.int (nI 24)]) (rest := [.ref q0, .int (nI 0), .ref q]) jn v0 hA (c_X4_init (n := 24) (by decide)) ⟨⟨wd_3_185, wd_1_3, wd_3_183, by decide⟩, rfl, wd_3_184⟩ rfl hl.1 ⟨by omega, by omega, by omega, by omega⟩ (Nat.le_of_ble_eq_true rfl) dX7_init_54 (fun ad0 Hb0 Lb0 e0 u0 => ?_)
  subst e0
  have u0 : JNW D A s.heap ((a, .inr (7, [.ref q, .ref (adN 0)])) :: ((j_w (yt_L 0) ty adN mt_0 ++ [(q, .inl (ty 3, 8, .inr (.inr (.inr (.inr (fun _ => none))))))]) ++ j_w (yt_L 24) ty ad0 mt_0)) _ _ := u0
  refine jn_ast 3 4 jn u0 rfl rfl (by unfold vp_in; decide +kernel) dX7_init_57 (fun Hc0 Lc0 z1 => ?_)
  refine lv_iinc (v := nI 1) (lv' := [(2, .int (nI 1)), (0, .ref a), (1, .int (nI 8))]) hx hb dX7_init_58 hl (k := 0) rfl (by decide) (by decide) rfl (fun ls hl => ?_)
  refine lv_goto (tgt := 34) hx hb dX7_init_61 (by decide) ?_
  have z1 : JNW D A s.heap ((a, .inr (7, [.ref q, .ref (adN 0)])) :: ((j_w (yt_L 0) ty adN mt_0 ++ [(q, .inl (ty 3, 8, .inr (.inr (.inr (.inr (va_up (fun _ => none) 0 (some (ad0 0))))))))]) ++ j_w (yt_L 24) ty ad0 mt_0)) _ _ := z1
  refine lv_iload_n hx hb dX7_init_34 rfl (lv_at hl 0 rfl) ?_
  refine lv_aload_n hx hb dX7_init_35 rfl (lv_at hl 1 rfl) ?_
  refine jn_get (C := RX7) (T := TX7) (N := 2) (k := 0) (ci := 7) jn z1 rfl jin_7 (by decide) wd_3_196 rfl dX7_init_36 ?_
  refine jn_alenq 3 jn z1 rfl dX7_init_39 ?_
  refine lv_icmp_ge (tgt := 64) hx hb dX7_init_40 (by decide) (fun c1 => absurd c1 (by decide)) (fun _ => ?_)
  refine lv_aload_n hx hb dX7_init_43 rfl (lv_at hl 1 rfl) ?_
  refine jn_get (C := RX7) (T := TX7) (N := 2) (k := 0) (ci := 7) jn z1 rfl jin_7 (by decide) wd_3_196 rfl dX7_init_44 ?_
  refine lv_iload_n hx hb dX7_init_47 rfl (lv_at hl 0 rfl) ?_
  refine jn_new (C := RX4) (T := TX4) (N := 2) (ci := 4) (fs := [.null, .int 0]) jn z1 hA rfl jin_4 tyX4 tyX4_ok wd_3_181 wd_3_182 wd_1_3 bX4 ⟨by omega, by omega⟩ dX7_init_48 (fun q1 Ha1 v1 => ?_)
  refine lv_dup hx hb dX7_init_51 rfl ?_
  refine lv_bipush (v := nI 24) hx hb dX7_init_52 (by decide) ?_
  refine jn_call (As := [.int (nI 24)]) (rest := [.ref q1, .int (nI 1), .ref q]) jn v1 hA (c_X4_init (n := 24) (by decide)) ⟨⟨wd_3_185, wd_1_3, wd_3_183, by decide⟩, rfl, wd_3_184⟩ rfl hl.1 ⟨by omega, by omega, by omega, by omega⟩ (Nat.le_of_ble_eq_true rfl) dX7_init_54 (fun ad1 Hb1 Lb1 e1 u1 => ?_)
  subst e1
  have u1 : JNW D A s.heap ((a, .inr (7, [.ref q, .ref (adN 0)])) :: (((j_w (yt_L 0) ty adN mt_0 ++ [(q, .inl (ty 3, 8, .inr (.inr (.inr (.inr (va_up (fun _ => none) 0 (some (ad0 0))))))))]) ++ j_w (yt_L 24) ty ad0 mt_0) ++ j_w (yt_L 24) ty ad1 mt_0)) _ _ := u1
  refine jn_ast 3 6 jn u1 rfl rfl (by unfold vp_in; decide +kernel) dX7_init_57 (fun Hc1 Lc1 z2 => ?_)
  refine lv_iinc (v := nI 2) (lv' := [(2, .int (nI 2)), (0, .ref a), (1, .int (nI 8))]) hx hb dX7_init_58 hl (k := 0) rfl (by decide) (by decide) rfl (fun ls hl => ?_)
  refine lv_goto (tgt := 34) hx hb dX7_init_61 (by decide) ?_
  have z2 : JNW D A s.heap ((a, .inr (7, [.ref q, .ref (adN 0)])) :: (((j_w (yt_L 0) ty adN mt_0 ++ [(q, .inl (ty 3, 8, .inr (.inr (.inr (.inr (va_up (va_up (fun _ => none) 0 (some (ad0 0))) 1 (some (ad1 0))))))))]) ++ j_w (yt_L 24) ty ad0 mt_0) ++ j_w (yt_L 24) ty ad1 mt_0)) _ _ := z2
  refine lv_iload_n hx hb dX7_init_34 rfl (lv_at hl 0 rfl) ?_
  refine lv_aload_n hx hb dX7_init_35 rfl (lv_at hl 1 rfl) ?_
  refine jn_get (C := RX7) (T := TX7) (N := 2) (k := 0) (ci := 7) jn z2 rfl jin_7 (by decide) wd_3_196 rfl dX7_init_36 ?_
  refine jn_alenq 3 jn z2 rfl dX7_init_39 ?_
  refine lv_icmp_ge (tgt := 64) hx hb dX7_init_40 (by decide) (fun c1 => absurd c1 (by decide)) (fun _ => ?_)
  refine lv_aload_n hx hb dX7_init_43 rfl (lv_at hl 1 rfl) ?_
  refine jn_get (C := RX7) (T := TX7) (N := 2) (k := 0) (ci := 7) jn z2 rfl jin_7 (by decide) wd_3_196 rfl dX7_init_44 ?_
  refine lv_iload_n hx hb dX7_init_47 rfl (lv_at hl 0 rfl) ?_
  refine jn_new (C := RX4) (T := TX4) (N := 2) (ci := 4) (fs := [.null, .int 0]) jn z2 hA rfl jin_4 tyX4 tyX4_ok wd_3_181 wd_3_182 wd_1_3 bX4 ⟨by omega, by omega⟩ dX7_init_48 (fun q2 Ha2 v2 => ?_)
  refine lv_dup hx hb dX7_init_51 rfl ?_
  refine lv_bipush (v := nI 24) hx hb dX7_init_52 (by decide) ?_
  refine jn_call (As := [.int (nI 24)]) (rest := [.ref q2, .int (nI 2), .ref q]) jn v2 hA (c_X4_init (n := 24) (by decide)) ⟨⟨wd_3_185, wd_1_3, wd_3_183, by decide⟩, rfl, wd_3_184⟩ rfl hl.1 ⟨by omega, by omega, by omega, by omega⟩ (Nat.le_of_ble_eq_true rfl) dX7_init_54 (fun ad2 Hb2 Lb2 e2 u2 => ?_)
  subst e2
  have u2 : JNW D A s.heap ((a, .inr (7, [.ref q, .ref (adN 0)])) :: ((((j_w (yt_L 0) ty adN mt_0 ++ [(q, .inl (ty 3, 8, .inr (.inr (.inr (.inr (va_up (va_up (fun _ => none) 0 (some (ad0 0))) 1 (some (ad1 0))))))))]) ++ j_w (yt_L 24) ty ad0 mt_0) ++ j_w (yt_L 24) ty ad1 mt_0) ++ j_w (yt_L 24) ty ad2 mt_0)) _ _ := u2
  refine jn_ast 3 8 jn u2 rfl rfl (by unfold vp_in; decide +kernel) dX7_init_57 (fun Hc2 Lc2 z3 => ?_)
  refine lv_iinc (v := nI 3) (lv' := [(2, .int (nI 3)), (0, .ref a), (1, .int (nI 8))]) hx hb dX7_init_58 hl (k := 0) rfl (by decide) (by decide) rfl (fun ls hl => ?_)
  refine lv_goto (tgt := 34) hx hb dX7_init_61 (by decide) ?_
  have z3 : JNW D A s.heap ((a, .inr (7, [.ref q, .ref (adN 0)])) :: ((((j_w (yt_L 0) ty adN mt_0 ++ [(q, .inl (ty 3, 8, .inr (.inr (.inr (.inr (va_up (va_up (va_up (fun _ => none) 0 (some (ad0 0))) 1 (some (ad1 0))) 2 (some (ad2 0))))))))]) ++ j_w (yt_L 24) ty ad0 mt_0) ++ j_w (yt_L 24) ty ad1 mt_0) ++ j_w (yt_L 24) ty ad2 mt_0)) _ _ := z3
  refine lv_iload_n hx hb dX7_init_34 rfl (lv_at hl 0 rfl) ?_
  refine lv_aload_n hx hb dX7_init_35 rfl (lv_at hl 1 rfl) ?_
  refine jn_get (C := RX7) (T := TX7) (N := 2) (k := 0) (ci := 7) jn z3 rfl jin_7 (by decide) wd_3_196 rfl dX7_init_36 ?_
  refine jn_alenq 3 jn z3 rfl dX7_init_39 ?_
  refine lv_icmp_ge (tgt := 64) hx hb dX7_init_40 (by decide) (fun c1 => absurd c1 (by decide)) (fun _ => ?_)
  refine lv_aload_n hx hb dX7_init_43 rfl (lv_at hl 1 rfl) ?_
  refine jn_get (C := RX7) (T := TX7) (N := 2) (k := 0) (ci := 7) jn z3 rfl jin_7 (by decide) wd_3_196 rfl dX7_init_44 ?_
  refine lv_iload_n hx hb dX7_init_47 rfl (lv_at hl 0 rfl) ?_
  refine jn_new (C := RX4) (T := TX4) (N := 2) (ci := 4) (fs := [.null, .int 0]) jn z3 hA rfl jin_4 tyX4 tyX4_ok wd_3_181 wd_3_182 wd_1_3 bX4 ⟨by omega, by omega⟩ dX7_init_48 (fun q3 Ha3 v3 => ?_)
  refine lv_dup hx hb dX7_init_51 rfl ?_
  refine lv_bipush (v := nI 24) hx hb dX7_init_52 (by decide) ?_
  refine jn_call (As := [.int (nI 24)]) (rest := [.ref q3, .int (nI 3), .ref q]) jn v3 hA (c_X4_init (n := 24) (by decide)) ⟨⟨wd_3_185, wd_1_3, wd_3_183, by decide⟩, rfl, wd_3_184⟩ rfl hl.1 ⟨by omega, by omega, by omega, by omega⟩ (Nat.le_of_ble_eq_true rfl) dX7_init_54 (fun ad3 Hb3 Lb3 e3 u3 => ?_)
  subst e3
  have u3 : JNW D A s.heap ((a, .inr (7, [.ref q, .ref (adN 0)])) :: (((((j_w (yt_L 0) ty adN mt_0 ++ [(q, .inl (ty 3, 8, .inr (.inr (.inr (.inr (va_up (va_up (va_up (fun _ => none) 0 (some (ad0 0))) 1 (some (ad1 0))) 2 (some (ad2 0))))))))]) ++ j_w (yt_L 24) ty ad0 mt_0) ++ j_w (yt_L 24) ty ad1 mt_0) ++ j_w (yt_L 24) ty ad2 mt_0) ++ j_w (yt_L 24) ty ad3 mt_0)) _ _ := u3
  refine jn_ast 3 10 jn u3 rfl rfl (by unfold vp_in; decide +kernel) dX7_init_57 (fun Hc3 Lc3 z4 => ?_)
  refine lv_iinc (v := nI 4) (lv' := [(2, .int (nI 4)), (0, .ref a), (1, .int (nI 8))]) hx hb dX7_init_58 hl (k := 0) rfl (by decide) (by decide) rfl (fun ls hl => ?_)
  refine lv_goto (tgt := 34) hx hb dX7_init_61 (by decide) ?_
  have z4 : JNW D A s.heap ((a, .inr (7, [.ref q, .ref (adN 0)])) :: (((((j_w (yt_L 0) ty adN mt_0 ++ [(q, .inl (ty 3, 8, .inr (.inr (.inr (.inr (va_up (va_up (va_up (va_up (fun _ => none) 0 (some (ad0 0))) 1 (some (ad1 0))) 2 (some (ad2 0))) 3 (some (ad3 0))))))))]) ++ j_w (yt_L 24) ty ad0 mt_0) ++ j_w (yt_L 24) ty ad1 mt_0) ++ j_w (yt_L 24) ty ad2 mt_0) ++ j_w (yt_L 24) ty ad3 mt_0)) _ _ := z4
  refine lv_iload_n hx hb dX7_init_34 rfl (lv_at hl 0 rfl) ?_
  refine lv_aload_n hx hb dX7_init_35 rfl (lv_at hl 1 rfl) ?_
  refine jn_get (C := RX7) (T := TX7) (N := 2) (k := 0) (ci := 7) jn z4 rfl jin_7 (by decide) wd_3_196 rfl dX7_init_36 ?_
  refine jn_alenq 3 jn z4 rfl dX7_init_39 ?_
  refine lv_icmp_ge (tgt := 64) hx hb dX7_init_40 (by decide) (fun c1 => absurd c1 (by decide)) (fun _ => ?_)
  refine lv_aload_n hx hb dX7_init_43 rfl (lv_at hl 1 rfl) ?_
  refine jn_get (C := RX7) (T := TX7) (N := 2) (k := 0) (ci := 7) jn z4 rfl jin_7 (by decide) wd_3_196 rfl dX7_init_44 ?_
  refine lv_iload_n hx hb dX7_init_47 rfl (lv_at hl 0 rfl) ?_
  refine jn_new (C := RX4) (T := TX4) (N := 2) (ci := 4) (fs := [.null, .int 0]) jn z4 hA rfl jin_4 tyX4 tyX4_ok wd_3_181 wd_3_182 wd_1_3 bX4 ⟨by omega, by omega⟩ dX7_init_48 (fun q4 Ha4 v4 => ?_)
  refine lv_dup hx hb dX7_init_51 rfl ?_
  refine lv_bipush (v := nI 24) hx hb dX7_init_52 (by decide) ?_
  refine jn_call (As := [.int (nI 24)]) (rest := [.ref q4, .int (nI 4), .ref q]) jn v4 hA (c_X4_init (n := 24) (by decide)) ⟨⟨wd_3_185, wd_1_3, wd_3_183, by decide⟩, rfl, wd_3_184⟩ rfl hl.1 ⟨by omega, by omega, by omega, by omega⟩ (Nat.le_of_ble_eq_true rfl) dX7_init_54 (fun ad4 Hb4 Lb4 e4 u4 => ?_)
  subst e4
  have u4 : JNW D A s.heap ((a, .inr (7, [.ref q, .ref (adN 0)])) :: ((((((j_w (yt_L 0) ty adN mt_0 ++ [(q, .inl (ty 3, 8, .inr (.inr (.inr (.inr (va_up (va_up (va_up (va_up (fun _ => none) 0 (some (ad0 0))) 1 (some (ad1 0))) 2 (some (ad2 0))) 3 (some (ad3 0))))))))]) ++ j_w (yt_L 24) ty ad0 mt_0) ++ j_w (yt_L 24) ty ad1 mt_0) ++ j_w (yt_L 24) ty ad2 mt_0) ++ j_w (yt_L 24) ty ad3 mt_0) ++ j_w (yt_L 24) ty ad4 mt_0)) _ _ := u4
  refine jn_ast 3 12 jn u4 rfl rfl (by unfold vp_in; decide +kernel) dX7_init_57 (fun Hc4 Lc4 z5 => ?_)
  refine lv_iinc (v := nI 5) (lv' := [(2, .int (nI 5)), (0, .ref a), (1, .int (nI 8))]) hx hb dX7_init_58 hl (k := 0) rfl (by decide) (by decide) rfl (fun ls hl => ?_)
  refine lv_goto (tgt := 34) hx hb dX7_init_61 (by decide) ?_
  have z5 : JNW D A s.heap ((a, .inr (7, [.ref q, .ref (adN 0)])) :: ((((((j_w (yt_L 0) ty adN mt_0 ++ [(q, .inl (ty 3, 8, .inr (.inr (.inr (.inr (va_up (va_up (va_up (va_up (va_up (fun _ => none) 0 (some (ad0 0))) 1 (some (ad1 0))) 2 (some (ad2 0))) 3 (some (ad3 0))) 4 (some (ad4 0))))))))]) ++ j_w (yt_L 24) ty ad0 mt_0) ++ j_w (yt_L 24) ty ad1 mt_0) ++ j_w (yt_L 24) ty ad2 mt_0) ++ j_w (yt_L 24) ty ad3 mt_0) ++ j_w (yt_L 24) ty ad4 mt_0)) _ _ := z5
  refine lv_iload_n hx hb dX7_init_34 rfl (lv_at hl 0 rfl) ?_
  refine lv_aload_n hx hb dX7_init_35 rfl (lv_at hl 1 rfl) ?_
  refine jn_get (C := RX7) (T := TX7) (N := 2) (k := 0) (ci := 7) jn z5 rfl jin_7 (by decide) wd_3_196 rfl dX7_init_36 ?_
  refine jn_alenq 3 jn z5 rfl dX7_init_39 ?_
  refine lv_icmp_ge (tgt := 64) hx hb dX7_init_40 (by decide) (fun c1 => absurd c1 (by decide)) (fun _ => ?_)
  refine lv_aload_n hx hb dX7_init_43 rfl (lv_at hl 1 rfl) ?_
  refine jn_get (C := RX7) (T := TX7) (N := 2) (k := 0) (ci := 7) jn z5 rfl jin_7 (by decide) wd_3_196 rfl dX7_init_44 ?_
  refine lv_iload_n hx hb dX7_init_47 rfl (lv_at hl 0 rfl) ?_
  refine jn_new (C := RX4) (T := TX4) (N := 2) (ci := 4) (fs := [.null, .int 0]) jn z5 hA rfl jin_4 tyX4 tyX4_ok wd_3_181 wd_3_182 wd_1_3 bX4 ⟨by omega, by omega⟩ dX7_init_48 (fun q5 Ha5 v5 => ?_)
  refine lv_dup hx hb dX7_init_51 rfl ?_
  refine lv_bipush (v := nI 24) hx hb dX7_init_52 (by decide) ?_
  refine jn_call (As := [.int (nI 24)]) (rest := [.ref q5, .int (nI 5), .ref q]) jn v5 hA (c_X4_init (n := 24) (by decide)) ⟨⟨wd_3_185, wd_1_3, wd_3_183, by decide⟩, rfl, wd_3_184⟩ rfl hl.1 ⟨by omega, by omega, by omega, by omega⟩ (Nat.le_of_ble_eq_true rfl) dX7_init_54 (fun ad5 Hb5 Lb5 e5 u5 => ?_)
  subst e5
  have u5 : JNW D A s.heap ((a, .inr (7, [.ref q, .ref (adN 0)])) :: (((((((j_w (yt_L 0) ty adN mt_0 ++ [(q, .inl (ty 3, 8, .inr (.inr (.inr (.inr (va_up (va_up (va_up (va_up (va_up (fun _ => none) 0 (some (ad0 0))) 1 (some (ad1 0))) 2 (some (ad2 0))) 3 (some (ad3 0))) 4 (some (ad4 0))))))))]) ++ j_w (yt_L 24) ty ad0 mt_0) ++ j_w (yt_L 24) ty ad1 mt_0) ++ j_w (yt_L 24) ty ad2 mt_0) ++ j_w (yt_L 24) ty ad3 mt_0) ++ j_w (yt_L 24) ty ad4 mt_0) ++ j_w (yt_L 24) ty ad5 mt_0)) _ _ := u5
  refine jn_ast 3 14 jn u5 rfl rfl (by unfold vp_in; decide +kernel) dX7_init_57 (fun Hc5 Lc5 z6 => ?_)
  refine lv_iinc (v := nI 6) (lv' := [(2, .int (nI 6)), (0, .ref a), (1, .int (nI 8))]) hx hb dX7_init_58 hl (k := 0) rfl (by decide) (by decide) rfl (fun ls hl => ?_)
  refine lv_goto (tgt := 34) hx hb dX7_init_61 (by decide) ?_
  have z6 : JNW D A s.heap ((a, .inr (7, [.ref q, .ref (adN 0)])) :: (((((((j_w (yt_L 0) ty adN mt_0 ++ [(q, .inl (ty 3, 8, .inr (.inr (.inr (.inr (va_up (va_up (va_up (va_up (va_up (va_up (fun _ => none) 0 (some (ad0 0))) 1 (some (ad1 0))) 2 (some (ad2 0))) 3 (some (ad3 0))) 4 (some (ad4 0))) 5 (some (ad5 0))))))))]) ++ j_w (yt_L 24) ty ad0 mt_0) ++ j_w (yt_L 24) ty ad1 mt_0) ++ j_w (yt_L 24) ty ad2 mt_0) ++ j_w (yt_L 24) ty ad3 mt_0) ++ j_w (yt_L 24) ty ad4 mt_0) ++ j_w (yt_L 24) ty ad5 mt_0)) _ _ := z6
  refine lv_iload_n hx hb dX7_init_34 rfl (lv_at hl 0 rfl) ?_
  refine lv_aload_n hx hb dX7_init_35 rfl (lv_at hl 1 rfl) ?_
  refine jn_get (C := RX7) (T := TX7) (N := 2) (k := 0) (ci := 7) jn z6 rfl jin_7 (by decide) wd_3_196 rfl dX7_init_36 ?_
  refine jn_alenq 3 jn z6 rfl dX7_init_39 ?_
  refine lv_icmp_ge (tgt := 64) hx hb dX7_init_40 (by decide) (fun c1 => absurd c1 (by decide)) (fun _ => ?_)
  refine lv_aload_n hx hb dX7_init_43 rfl (lv_at hl 1 rfl) ?_
  refine jn_get (C := RX7) (T := TX7) (N := 2) (k := 0) (ci := 7) jn z6 rfl jin_7 (by decide) wd_3_196 rfl dX7_init_44 ?_
  refine lv_iload_n hx hb dX7_init_47 rfl (lv_at hl 0 rfl) ?_
  refine jn_new (C := RX4) (T := TX4) (N := 2) (ci := 4) (fs := [.null, .int 0]) jn z6 hA rfl jin_4 tyX4 tyX4_ok wd_3_181 wd_3_182 wd_1_3 bX4 ⟨by omega, by omega⟩ dX7_init_48 (fun q6 Ha6 v6 => ?_)
  refine lv_dup hx hb dX7_init_51 rfl ?_
  refine lv_bipush (v := nI 24) hx hb dX7_init_52 (by decide) ?_
  refine jn_call (As := [.int (nI 24)]) (rest := [.ref q6, .int (nI 6), .ref q]) jn v6 hA (c_X4_init (n := 24) (by decide)) ⟨⟨wd_3_185, wd_1_3, wd_3_183, by decide⟩, rfl, wd_3_184⟩ rfl hl.1 ⟨by omega, by omega, by omega, by omega⟩ (Nat.le_of_ble_eq_true rfl) dX7_init_54 (fun ad6 Hb6 Lb6 e6 u6 => ?_)
  subst e6
  have u6 : JNW D A s.heap ((a, .inr (7, [.ref q, .ref (adN 0)])) :: ((((((((j_w (yt_L 0) ty adN mt_0 ++ [(q, .inl (ty 3, 8, .inr (.inr (.inr (.inr (va_up (va_up (va_up (va_up (va_up (va_up (fun _ => none) 0 (some (ad0 0))) 1 (some (ad1 0))) 2 (some (ad2 0))) 3 (some (ad3 0))) 4 (some (ad4 0))) 5 (some (ad5 0))))))))]) ++ j_w (yt_L 24) ty ad0 mt_0) ++ j_w (yt_L 24) ty ad1 mt_0) ++ j_w (yt_L 24) ty ad2 mt_0) ++ j_w (yt_L 24) ty ad3 mt_0) ++ j_w (yt_L 24) ty ad4 mt_0) ++ j_w (yt_L 24) ty ad5 mt_0) ++ j_w (yt_L 24) ty ad6 mt_0)) _ _ := u6
  refine jn_ast 3 16 jn u6 rfl rfl (by unfold vp_in; decide +kernel) dX7_init_57 (fun Hc6 Lc6 z7 => ?_)
  refine lv_iinc (v := nI 7) (lv' := [(2, .int (nI 7)), (0, .ref a), (1, .int (nI 8))]) hx hb dX7_init_58 hl (k := 0) rfl (by decide) (by decide) rfl (fun ls hl => ?_)
  refine lv_goto (tgt := 34) hx hb dX7_init_61 (by decide) ?_
  have z7 : JNW D A s.heap ((a, .inr (7, [.ref q, .ref (adN 0)])) :: ((((((((j_w (yt_L 0) ty adN mt_0 ++ [(q, .inl (ty 3, 8, .inr (.inr (.inr (.inr (va_up (va_up (va_up (va_up (va_up (va_up (va_up (fun _ => none) 0 (some (ad0 0))) 1 (some (ad1 0))) 2 (some (ad2 0))) 3 (some (ad3 0))) 4 (some (ad4 0))) 5 (some (ad5 0))) 6 (some (ad6 0))))))))]) ++ j_w (yt_L 24) ty ad0 mt_0) ++ j_w (yt_L 24) ty ad1 mt_0) ++ j_w (yt_L 24) ty ad2 mt_0) ++ j_w (yt_L 24) ty ad3 mt_0) ++ j_w (yt_L 24) ty ad4 mt_0) ++ j_w (yt_L 24) ty ad5 mt_0) ++ j_w (yt_L 24) ty ad6 mt_0)) _ _ := z7
  refine lv_iload_n hx hb dX7_init_34 rfl (lv_at hl 0 rfl) ?_
  refine lv_aload_n hx hb dX7_init_35 rfl (lv_at hl 1 rfl) ?_
  refine jn_get (C := RX7) (T := TX7) (N := 2) (k := 0) (ci := 7) jn z7 rfl jin_7 (by decide) wd_3_196 rfl dX7_init_36 ?_
  refine jn_alenq 3 jn z7 rfl dX7_init_39 ?_
  refine lv_icmp_ge (tgt := 64) hx hb dX7_init_40 (by decide) (fun c1 => absurd c1 (by decide)) (fun _ => ?_)
  refine lv_aload_n hx hb dX7_init_43 rfl (lv_at hl 1 rfl) ?_
  refine jn_get (C := RX7) (T := TX7) (N := 2) (k := 0) (ci := 7) jn z7 rfl jin_7 (by decide) wd_3_196 rfl dX7_init_44 ?_
  refine lv_iload_n hx hb dX7_init_47 rfl (lv_at hl 0 rfl) ?_
  refine jn_new (C := RX4) (T := TX4) (N := 2) (ci := 4) (fs := [.null, .int 0]) jn z7 hA rfl jin_4 tyX4 tyX4_ok wd_3_181 wd_3_182 wd_1_3 bX4 ⟨by omega, by omega⟩ dX7_init_48 (fun q7 Ha7 v7 => ?_)
  refine lv_dup hx hb dX7_init_51 rfl ?_
  refine lv_bipush (v := nI 24) hx hb dX7_init_52 (by decide) ?_
  refine jn_call (As := [.int (nI 24)]) (rest := [.ref q7, .int (nI 7), .ref q]) jn v7 hA (c_X4_init (n := 24) (by decide)) ⟨⟨wd_3_185, wd_1_3, wd_3_183, by decide⟩, rfl, wd_3_184⟩ rfl hl.1 ⟨by omega, by omega, by omega, by omega⟩ (Nat.le_of_ble_eq_true rfl) dX7_init_54 (fun ad7 Hb7 Lb7 e7 u7 => ?_)
  subst e7
  have u7 : JNW D A s.heap ((a, .inr (7, [.ref q, .ref (adN 0)])) :: (((((((((j_w (yt_L 0) ty adN mt_0 ++ [(q, .inl (ty 3, 8, .inr (.inr (.inr (.inr (va_up (va_up (va_up (va_up (va_up (va_up (va_up (fun _ => none) 0 (some (ad0 0))) 1 (some (ad1 0))) 2 (some (ad2 0))) 3 (some (ad3 0))) 4 (some (ad4 0))) 5 (some (ad5 0))) 6 (some (ad6 0))))))))]) ++ j_w (yt_L 24) ty ad0 mt_0) ++ j_w (yt_L 24) ty ad1 mt_0) ++ j_w (yt_L 24) ty ad2 mt_0) ++ j_w (yt_L 24) ty ad3 mt_0) ++ j_w (yt_L 24) ty ad4 mt_0) ++ j_w (yt_L 24) ty ad5 mt_0) ++ j_w (yt_L 24) ty ad6 mt_0) ++ j_w (yt_L 24) ty ad7 mt_0)) _ _ := u7
  refine jn_ast 3 18 jn u7 rfl rfl (by unfold vp_in; decide +kernel) dX7_init_57 (fun Hc7 Lc7 z8 => ?_)
  refine lv_iinc (v := nI 8) (lv' := [(2, .int (nI 8)), (0, .ref a), (1, .int (nI 8))]) hx hb dX7_init_58 hl (k := 0) rfl (by decide) (by decide) rfl (fun ls hl => ?_)
  refine lv_goto (tgt := 34) hx hb dX7_init_61 (by decide) ?_
  have z8 : JNW D A s.heap ((a, .inr (7, [.ref q, .ref (adN 0)])) :: (((((((((j_w (yt_L 0) ty adN mt_0 ++ [(q, .inl (ty 3, 8, .inr (.inr (.inr (.inr (va_up (va_up (va_up (va_up (va_up (va_up (va_up (va_up (fun _ => none) 0 (some (ad0 0))) 1 (some (ad1 0))) 2 (some (ad2 0))) 3 (some (ad3 0))) 4 (some (ad4 0))) 5 (some (ad5 0))) 6 (some (ad6 0))) 7 (some (ad7 0))))))))]) ++ j_w (yt_L 24) ty ad0 mt_0) ++ j_w (yt_L 24) ty ad1 mt_0) ++ j_w (yt_L 24) ty ad2 mt_0) ++ j_w (yt_L 24) ty ad3 mt_0) ++ j_w (yt_L 24) ty ad4 mt_0) ++ j_w (yt_L 24) ty ad5 mt_0) ++ j_w (yt_L 24) ty ad6 mt_0) ++ j_w (yt_L 24) ty ad7 mt_0)) _ _ := z8
  refine lv_iload_n hx hb dX7_init_34 rfl (lv_at hl 0 rfl) ?_
  refine lv_aload_n hx hb dX7_init_35 rfl (lv_at hl 1 rfl) ?_
  refine jn_get (C := RX7) (T := TX7) (N := 2) (k := 0) (ci := 7) jn z8 rfl jin_7 (by decide) wd_3_196 rfl dX7_init_36 ?_
  refine jn_alenq 3 jn z8 rfl dX7_init_39 ?_
  refine lv_icmp_ge (tgt := 64) hx hb dX7_init_40 (by decide) (fun _ => ?_) (fun c1 => absurd (by decide) c1)
  have x1 : va_P D jcl (((a, .inr (7, [.ref q, .ref (adN 0)])) :: j_w (yt_L 0) ty adN mt_0) ++ (q, .inl (ty 3, 8, .inr (.inr (.inr (.inr (va_up (va_up (va_up (va_up (va_up (va_up (va_up (va_up (fun _ => none) 0 (some (ad0 0))) 1 (some (ad1 0))) 2 (some (ad2 0))) 3 (some (ad3 0))) 4 (some (ad4 0))) 5 (some (ad5 0))) 6 (some (ad6 0))) 7 (some (ad7 0)))))))) :: ((((((((([] : va_W) ++ j_w (yt_L 24) ty ad0 mt_0) ++ j_w (yt_L 24) ty ad1 mt_0) ++ j_w (yt_L 24) ty ad2 mt_0) ++ j_w (yt_L 24) ty ad3 mt_0) ++ j_w (yt_L 24) ty ad4 mt_0) ++ j_w (yt_L 24) ty ad5 mt_0) ++ j_w (yt_L 24) ty ad6 mt_0) ++ j_w (yt_L 24) ty ad7 mt_0)) _ := z8.1
  have x2 := va_P_arr (g := fun i => some (([a, adN 0, adN 1, q, ad0 0, ad0 1, ad1 0, ad1 1, ad2 0, ad2 1, ad3 0, ad3 1, ad4 0, ad4 1, ad5 0, ad5 1, ad6 0, ad6 1, ad7 0, ad7 1] : List Nat).getD (j_rf (yt_S 8) 3 i) 0)) (fun i hi => match i, hi with
    | 0, _ => rfl
    | 1, _ => rfl
    | 2, _ => rfl
    | 3, _ => rfl
    | 4, _ => rfl
    | 5, _ => rfl
    | 6, _ => rfl
    | 7, _ => rfl
    | k + 8, hi => absurd hi (by omega)) x1
  have w9 : JNW D A s.heap (j_w (yt_S 8) ty (fun k => ([a, adN 0, adN 1, q, ad0 0, ad0 1, ad1 0, ad1 1, ad2 0, ad2 1, ad3 0, ad3 1, ad4 0, ad4 1, ad5 0, ad5 1, ad6 0, ad6 1, ad7 0, ad7 1] : List Nat).getD k 0) mt_0) _ _ := ⟨x2, va_D_fst z8.2.1 rfl, z8.2.2⟩
  exact kr _ _ _ _ _ _ (fun k => ([a, adN 0, adN 1, q, ad0 0, ad0 1, ad1 0, ad1 1, ad2 0, ad2 1, ad3 0, ad3 1, ad4 0, ad4 1, ad5 0, ad5 1, ad6 0, ad6 1, ad7 0, ad7 1] : List Nat).getD k 0) rfl w9 rfl rfl dX7_init_64

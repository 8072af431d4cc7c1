/-! ===== constructors: calls on the part that came last ===== -/
theorem va_D_fst {A : Nat → Prop} {w1 w2 : va_W} (h : va_D A w1) (e : w2.map Prod.fst = w1.map Prod.fst) : va_D A w2 := by
  have key : ∀ (i : Nat) (p : Nat × va_E), w2[i]? = some p → ∃ p', w1[i]? = some p' ∧ p'.1 = p.1 := fun i p hp => by
    have h1 : (w2.map Prod.fst)[i]? = some p.1 := by rw [List.getElem?_map, hp]; rfl
    rw [e, List.getElem?_map] at h1
    cases hw : w1[i]? with
    | none => rw [hw] at h1; cases h1
    | some p' => rw [hw] at h1; exact ⟨p', rfl, Option.some.inj h1⟩
  refine ⟨fun i j p q hi hj hpq => ?_, fun k q hk => ?_⟩
  · obtain ⟨p', a1, a2⟩ := key i p hi
    obtain ⟨q', b1, b2⟩ := key j q hj
    exact h.1 i j p' q' a1 b1 (by rw [a2, b2]; exact hpq)
  · obtain ⟨q', b1, b2⟩ := key k q hk
    rw [← b2]
    exact h.2 k q' b1
theorem j_joinW {D : va_G} {A0 : Nat → Prop} {ws : va_W} {Ys : JY} {ty : Nat → ClassId} {ad : Nat → Nat} {M M' : JM} {H H1 : Heap} (hP : va_P D jcl (ws ++ j_w Ys ty ad M) H) (hD : va_D A0 (ws ++ j_w Ys ty ad M)) (hk : ∀ z, z < H.size → ¬ j_A Ys ad H.size z → H1[z]? = H[z]?) (hP1 : va_P D jcl (j_w Ys ty ad M') H1) : va_P D jcl (ws ++ j_w Ys ty ad M') H1 ∧ va_D A0 (ws ++ j_w Ys ty ad M') := by
  have lift : ∀ (k : Nat) (z : Nat × va_E), ws[k]? = some z → (ws ++ j_w Ys ty ad M)[k]? = some z := fun k z hz => by
    have hl : k < ws.length := (List.getElem?_eq_some_iff.mp hz).1
    rw [List.getElem?_append_left hl]
    exact hz
  refine ⟨va_P.app (va_P.kept (H := H) (fun k z hz => hP k z (lift k z hz)) (fun k z hz => ?_)) hP1, va_D_fst hD ?_⟩
  · have hl : k < ws.length := (List.getElem?_eq_some_iff.mp hz).1
    have h1 := (hP k z (lift k z hz)).lt
    refine hk _ h1 (fun c => ?_)
    rcases c with ⟨o, ho, e⟩ | c
    · have h2 : (ws ++ j_w Ys ty ad M)[ws.length + o]? = some (ad o, j_en Ys ty ad M o) := by
        rw [List.getElem?_append_right (by omega), Nat.add_sub_cancel_left]
        exact j_w_get ho
      have := hD.1 k (ws.length + o) z _ (lift k z hz) h2 e
      omega
    · omega
  · simp [j_w]
section JNCALL
variable {p : Program} {l : Launch} {e : Env} {R : Room} {s : State} {m : MethodId} {args : Array Value} {below : List Frame} {meth : Method} {c : Code} {H : Heap} {locs : List Loc} {cells slots : Nat} {Q : State → Prop}
variable {cc : ByteArray} {nL pc : Nat} {own : String} {ls : Array Slot} {rest : List Value} {D : va_G} {ty : Nat → ClassId} {A : Nat → Prop} {ws : va_W} {index : Nat} {Ys : JY} {ad : Nat → Nat} {M M' : JM}
theorem jn_last (jn : JNC D ty p s m args c cc nL own) (w : JNW D A s.heap (ws ++ j_w Ys ty ad M) H locs) (hYs : j_ok Ys) : JC D Ys ty p s m args c cc nL own ∧ JW D Ys ty ad A s.heap M H locs := by
  have lift : ∀ (k : Nat) (z : Nat × va_E), (j_w Ys ty ad M)[k]? = some z → (ws ++ j_w Ys ty ad M)[ws.length + k]? = some z := fun k z hz => by
    rw [List.getElem?_append_right (by omega), Nat.add_sub_cancel_left]
    exact hz
  refine ⟨⟨jn.1, jn.2.1, jn.2.2.1, jn.2.2.2.1, jn.2.2.2.2.1, jn.2.2.2.2.2.1, hYs⟩, fun k z hk => w.1 _ z (lift k z hk), ⟨fun i j p q hi hj e => ?_, fun k q hk => w.2.1.2 _ q (lift k q hk)⟩, w.2.2⟩
  have := w.2.1.1 _ _ p q (lift i p hi) (lift j q hj) e
  omega
theorem jn_vi {r : Int32} {y : MethodName} {b : ByteArray} {n fr lo o ci N : Nat} {C : String} {T : u_T} {ret : Option FieldType} (As rest : List Value) {st0 : List Value} (jn : JNC D ty p s m args c cc nL own) (w : JNW D A s.heap (ws ++ j_w Ys ty ad M) H locs) (hA : ∀ q, s.heap.size ≤ q → A q) (hYs : j_ok Ys) (ho : j_kd Ys o = ci) (hci : ci < 11) (hc : jcl[ci]? = some (C, T, N))
    (hM : JMi D Ys ty ad H.size l y b n ret fr lo (.ref (ad o) :: As) M r M') (sd : j_sideV own index C y b n ret As.length) (hst : As.reverse ++ .ref (ad o) :: rest = st0) (hls : ls.size = nL) (hR : fr + 1 ≤ R.frames ∧ 8 + (n + 11) + lo ≤ R.locals ∧ cells + 0 ≤ R.cells ∧ slots + 0 ≤ R.slots) (hr8 : (rest.map fun v => v.category).sum ≤ 8) (hdg : decode cc pc = .ok (.invokevirtual index, 3))
    (kk : ∀ (H1 : Heap) (locs1 : List Loc), JNW D A s.heap (ws ++ j_w Ys ty ad M') H1 locs1 → W p l e R s m args below meth c H1 locs1 cells slots Q (F0 m (pc + 3) ls (.int r :: rest))) : W p l e R s m args below meth c H locs cells slots Q (F0 m pc ls st0) := by
  obtain ⟨jc, jw⟩ := jn_last jn w hYs
  refine va_calli (j_runV jc jw ho hci hc hM sd hst hls hR hr8 hdg) w.2.2 (fun q _ h => j_AA jw hA q h) (fun q h => j_AA jw hA q h) (fun r1 u t H1 locs1 ht hvm hw hB hz hk hS => ?_)
  obtain ⟨rfl, rfl⟩ := hw
  have hP1 := hB.1
  rw [ht] at hP1
  obtain ⟨x1, x2⟩ := j_joinW w.1 w.2.1 hk hP1
  exact kk H1 locs1 ⟨x1, x2, hS⟩
theorem jn_vv {y : MethodName} {b : ByteArray} {n fr lo o ci N : Nat} {C : String} {T : u_T} (As rest : List Value) {st0 : List Value} (jn : JNC D ty p s m args c cc nL own) (w : JNW D A s.heap (ws ++ j_w Ys ty ad M) H locs) (hA : ∀ q, s.heap.size ≤ q → A q) (hYs : j_ok Ys) (ho : j_kd Ys o = ci) (hci : ci < 11) (hc : jcl[ci]? = some (C, T, N))
    (hM : JMv D Ys ty ad H.size l y b n fr lo (.ref (ad o) :: As) M M') (sd : j_sideV own index C y b n none As.length) (hst : As.reverse ++ .ref (ad o) :: rest = st0) (hls : ls.size = nL) (hR : fr + 1 ≤ R.frames ∧ 8 + (n + 11) + lo ≤ R.locals ∧ cells + 0 ≤ R.cells ∧ slots + 0 ≤ R.slots) (hr8 : (rest.map fun v => v.category).sum ≤ 8) (hdg : decode cc pc = .ok (.invokevirtual index, 3))
    (kk : ∀ (H1 : Heap) (locs1 : List Loc), JNW D A s.heap (ws ++ j_w Ys ty ad M') H1 locs1 → W p l e R s m args below meth c H1 locs1 cells slots Q (F0 m (pc + 3) ls rest)) : W p l e R s m args below meth c H locs cells slots Q (F0 m pc ls st0) := by
  obtain ⟨jc, jw⟩ := jn_last jn w hYs
  refine va_callv (j_runV jc jw ho hci hc hM sd hst hls hR hr8 hdg) w.2.2 (fun q _ h => j_AA jw hA q h) (fun q h => j_AA jw hA q h) (fun u t H1 locs1 ht hvm hw hB hz hk hS => ?_)
  subst hw
  have hP1 := hB.1
  rw [ht] at hP1
  obtain ⟨x1, x2⟩ := j_joinW w.1 w.2.1 hk hP1
  exact kk H1 locs1 ⟨x1, x2, hS⟩
theorem jn_get {C : String} {T : u_T} {N ci k a : Nat} {fs : List Value} {tl : va_W} {v : Value} (jn : JNC D ty p s m args c cc nL own) (w : JNW D A s.heap ((a, .inr (ci, fs)) :: tl) H locs) (hc : jcl[ci]? = some (C, T, N)) (hin : ∀ x ∈ u_ws C T N, x ∈ jwd) (hk : k < N) (hl : Cond.fieldLink own index (T k).1 (T k).2.1 (T k).2.2.1 ∈ jwd) (hv : fs[k]? = some v) (hdg : decode cc pc = .ok (.getfield index, 3))
    (kk : W p l e R s m args below meth c H locs cells slots Q (F0 m (pc + 3) ls (v :: rest))) : W p l e R s m args below meth c H locs cells slots Q (F0 m pc ls (.ref a :: rest)) :=
  va_get (tys := j_tys ty) jn.1 jn.2.1 jn.2.2.2.2.1 hin jn.2.2.2.1 jn.2.2.2.2.2.1 w.1 0 (fs := fs) rfl hc k hk (jn.2.2.2.2.1 _ hl) (fun _ h => h) hv hdg kk
end JNCALL
theorem yt_T_ok {n : Nat} (h : n < 1000000) : j_ok (yt_T n) := by
  have two : ∀ o, o < (yt_T n).1.length → o = 0 ∨ o = 1 := fun o ho => by
    have : o < 2 := ho
    omega
  refine ⟨fun o ho k hk hf => ?_, fun o ho hk => ?_, fun o ho => ?_⟩
  · rcases two o ho with rfl | rfl
    · match k, hf with
      | 0, _ => rfl
      | 1, hf => exact absurd hf (by show ¬ (200 < 200); decide)
      | 2, hf => exact absurd hf (by show ¬ (200 < 200); decide)
      | k + 3, hf => exact absurd hf (by show ¬ (999 < 200); decide)
    · exact absurd hf (by show ¬ (999 < 200); decide)
  · rcases two o ho with rfl | rfl
    · exact absurd hk (by show ¬ (8 = 103); decide)
    · exact absurd hk (by show ¬ (100 = 103); decide)
  · rcases two o ho with rfl | rfl
    · exact ⟨by show 0 < 1000000; decide, Or.inl (by show 8 < 11; decide)⟩
    · exact ⟨h, Or.inr (Or.inl rfl)⟩
/-- an alignment's table as its constructor leaves it -/
def mt_TA : Nat → JM
  | 0 => mt_T 25
  | i + 1 => ((s_X8_addRow (yt_T 625) (mt_TA i) 0).getD (0, mt_0)).2
theorem mt_TA_step {i : Nat} (hi : i < 25) (h : TB (mt_TA i) 0 625 25 (List.replicate i (List.replicate 25 (-1)))) : s_X8_addRow (yt_T 625) (mt_TA i) 0 = some (nI i, mt_TA (i + 1)) ∧ TB (mt_TA (i + 1)) 0 625 25 (List.replicate (i + 1) (List.replicate 25 (-1))) := by
  obtain ⟨M', b1, b2, b3⟩ := p_addRow (Y := yt_T 625) (cap := 625) ⟨rfl, rfl, by decide⟩ (by decide) h (by rw [List.length_replicate]; omega)
  rw [List.length_replicate] at b1
  have e : mt_TA (i + 1) = M' := by
    show ((s_X8_addRow (yt_T 625) (mt_TA i) 0).getD (0, mt_0)).2 = M'
    rw [b1]
    rfl
  rw [e, List.replicate_succ']
  exact ⟨b1, b3⟩
theorem mt_TA_ok : ∀ i, i ≤ 25 → TB (mt_TA i) 0 625 25 (List.replicate i (List.replicate 25 (-1))) := by
  intro i
  induction i with
  | zero =>
    intro _
    refine ⟨rfl, rfl, by decide, fun i hi => absurd hi (Nat.not_lt_zero _), fun r hr => absurd hr List.not_mem_nil⟩
  | succ i ih => intro h; exact (mt_TA_step (by omega) (ih (by omega))).2

/-! ===== build: its contract; a layout that grows by an array ===== -/
theorem bX9 : ∀ j, j < 13 → defaultValue (tyX9 j) = vp_V [.null, .null, .null, .null, .null, .null, .null, .null, .null, .int 0, .int 0, .int 0, .int 0] j := fun j hj => match j, hj with
  | 0, _ => rfl
  | 1, _ => rfl
  | 2, _ => rfl
  | 3, _ => rfl
  | 4, _ => rfl
  | 5, _ => rfl
  | 6, _ => rfl
  | 7, _ => rfl
  | 8, _ => rfl
  | 9, _ => rfl
  | 10, _ => rfl
  | 11, _ => rfl
  | 12, _ => rfl
  | k + 13, h => absurd h (by omega)
theorem yt_X9_len : yt_X9.1.length = 140 := by decide +kernel
set_option maxRecDepth 100000 in
theorem yt_X9_ok : j_ok yt_X9 := by
  refine ⟨?_, ?_, ?_⟩
  · decide +kernel
  · decide +kernel
  · decide +kernel
set_option maxRecDepth 100000 in
theorem yt_X9_kd : j_kd yt_X9 0 = 9 := by decide +kernel
def bd_P (D : va_G) (ty : Nat → ClassId) (b L sz : Nat) (xs : Nat → Int32) : State → Prop := fun U => U.heap.size = sz ∧ va_X b L xs U U.heap ∧ b < U.heap.size ∧ va_K D jcl (j_tys ty) U ∧ j_X U
theorem bd_blind {D : va_G} {ty : Nat → ClassId} {b L sz : Nat} {xs : Nat → Int32} {As : List Value} : FrameBlind (va_Pc As (bd_P D ty b L sz xs)) := by
  intro a U g mk q
  obtain ⟨q0, q1, q2, q3, q4, q5⟩ := q
  exact ⟨q0, q1, va_X.moved (u := U) (U := U.calling g mk a) (Vm.Alike.refl U.vm) q2, q3, va_K.moved (u := U) (U := U.calling g mk a) (Vm.Alike.refl U.vm) q4, j_X.moved (s := U) (U := U.calling g mk a) (State.WarmedH.refl U) q5⟩
set_option maxRecDepth 100000 in
theorem c_L_build {D : va_G} {ty : Nat → ClassId} {l : Launch} {b L sz : Nat} {xs : Nat → Int32} {r : JM} (hL : L ≤ 260) (hE : sg_b yt_X9 mt_X9 L xs = some r) : Met l yL_build (j_ws yL_build cL_build 8 (some (.object "MergeWorkbench"))) (j_rm 6 134 140 5458) (va_Pc [.ref b] (bd_P D ty b L sz xs)) (va_Qr (fun (_ : Nat → Nat) => True) (fun (ad : Nat → Nat) (a : Nat) (t : State) => a = ad 0 ∧ va_P D jcl (j_w yt_X9 ty ad r) t.heap ∧ va_K D jcl (j_tys ty) t ∧ va_D (fun q => sz ≤ q) (j_w yt_X9 ty ad r)) (fun q => sz ≤ q)) 140 5458 (fun q => sz ≤ q) := by
  refine Met.ofW (cc := cL_build) (maxL := 8) (ret := some (.object "MergeWorkbench")) (by decide) rfl ?_
  intro p e s m args below meth c s₁ B hml hv
  obtain ⟨rfl, hsz, hX, hbl, hK, hJX⟩ := hv
  subst hsz
  have hx := B.exec
  have hb := B.bytes
  have hts := atoms_spec (ws := j_ws yL_build cL_build 8 (some (.object "MergeWorkbench"))) B.pre
  have htw : ∀ w ∈ jwd, w.before ([.ref b] : List Value).toArray s = true := fun w h => hts w (List.mem_cons_of_mem _ h)
  have hown : s.vm.findClass jlw = some m.cls := findClass_of_methodNamed B.named
  have hA : ∀ q : Nat, s.heap.size ≤ q → (fun q : Nat => s.heap.size ≤ q) q := fun _ h => h
  have hbA : ¬ (fun q : Nat => s.heap.size ≤ q) b := Nat.not_le.mpr hbl
  have jn : JNC D ty p s m ([.ref b] : List Value).toArray c cL_build 8 jlw := ⟨hx, hb, hml, hown, htw, hK, hJX⟩
  have w : JNW D (fun q : Nat => s.heap.size ≤ q) s.heap [] s.heap [] := ⟨fun k q h => by simp at h, ⟨fun i j p q h => by simp at h, fun k q h => by simp at h⟩, va_S.rf⟩
  have hl := lv_entry ([.ref b]) (n := 8) (Nat.le_of_ble_eq_true rfl)
  rw [lg_entry_eq]
  generalize (lg_sl ([.ref b]) ++ List.replicate (8 - (lg_sl ([.ref b])).length) Slot.unset).toArray = ls at hl ⊢
  have hl : lv_has ls 8 [(0, .ref b)] := hl
  refine jn_new (C := RX9) (T := TX9) (N := 13) (ci := 9) (fs := [.null, .null, .null, .null, .null, .null, .null, .null, .null, .int 0, .int 0, .int 0, .int 0]) jn w hA rfl jin_9 tyX9 tyX9_ok wd_3_170 wd_1_27 wd_1_1 bX9 ⟨Nat.le_of_ble_eq_true rfl, Nat.le_of_ble_eq_true rfl⟩ dL_build_0 (fun q9 H9 v9 => ?_)
  refine lv_dup hx hb dL_build_3 rfl ?_
  refine jn_call (As := []) (rest := [.ref q9]) jn v9 hA (c_X9_init) ⟨⟨wd_3_173, wd_1_1, wd_3_171, by decide⟩, rfl, wd_3_172⟩ rfl hl.1 ⟨Nat.le_of_ble_eq_true rfl, Nat.le_of_ble_eq_true rfl, Nat.le_of_ble_eq_true rfl, Nat.le_of_ble_eq_true rfl⟩ (Nat.le_of_ble_eq_true rfl) dL_build_4 (fun f9 H1 L1 e9 u9 => ?_)
  subst e9
  refine lv_astore_n (lv' := [(1, .ref (f9 0)), (0, .ref b)]) hx hb dL_build_7 rfl hl (by decide) rfl (fun ls hl => ?_)
  have jw : JW D yt_X9 ty f9 (fun q : Nat => s.heap.size ≤ q) s.heap mt_X9 H1 L1 := u9
  have jc : JC D yt_X9 ty p s m ([.ref b] : List Value).toArray c cL_build 8 jlw := ⟨hx, hb, hml, hown, htw, hK, yt_X9_ok⟩
  refine g_b (L := L) (b := b) (xs := xs) jc hA hX hbl hbA hL yt_X9_kd (Nat.le_of_ble_eq_true rfl) (Nat.le_of_ble_eq_true rfl) (Nat.le_of_ble_eq_true rfl) (Nat.le_of_ble_eq_true rfl) hE jw (lv_sub hl [1, 0] rfl) (fun N H locs ls hN w hl => ?_)
  subst hN
  refine lv_aload_n hx hb dL_build_240 rfl (lv_at hl 0 rfl) ?_
  refine j_wid (k := 140) (n := 5458) (Nat.le_of_ble_eq_true rfl) (Nat.le_of_ble_eq_true rfl) ?_
  exact W.aret hx hb B.returns (Or.inl ⟨_, rfl⟩) (Or.inr ⟨_, rfl⟩) (fun t ht hW => ⟨⟨f9, f9 0, rfl, trivial, rfl, by rw [ht]; exact w.1, va_K.moved hW.alike hK, w.2.1⟩, w.2.2.F ht⟩) w.2.2.2.2 dL_build_241
/-- a layout with one array more -/
def yx (Y : JY) (kd N : Nat) : JY := (Y.1 ++ [kd], fun o k => if o = Y.1.length then 0 else Y.2.1 o k, fun o => if o = Y.1.length then N else Y.2.2 o)
def mx (Y : JY) (M : JM) : JM := fun o k => if o = Y.1.length then 0 else M o k
def ax (Y : JY) (ad : Nat → Nat) (q : Nat) : Nat → Nat := fun o => if o = Y.1.length then q else ad o
section YX
variable {Y : JY} {ty : Nat → ClassId} {ad : Nat → Nat} {M : JM} {kd N q : Nat}
theorem yx_len : (yx Y kd N).1.length = Y.1.length + 1 := by
  show (Y.1 ++ [kd]).length = _
  rw [List.length_append, List.length_singleton]
theorem yx_kd {o : Nat} (h : o < Y.1.length) : j_kd (yx Y kd N) o = j_kd Y o := by
  show (Y.1 ++ [kd]).getD o 999 = Y.1.getD o 999
  rw [List.getD_eq_getElem?_getD, List.getElem?_append_left h, ← List.getD_eq_getElem?_getD]
theorem yx_kdn : j_kd (yx Y kd N) Y.1.length = kd := by
  show (Y.1 ++ [kd]).getD Y.1.length 999 = kd
  rw [List.getD_eq_getElem?_getD, List.getElem?_append_right (Nat.le_refl _), Nat.sub_self]
  rfl
theorem yx_rf {o k : Nat} (h : o < Y.1.length) : j_rf (yx Y kd N) o k = j_rf Y o k := if_neg (by omega)
theorem yx_ln {o : Nat} (h : o < Y.1.length) : j_ln (yx Y kd N) o = j_ln Y o := if_neg (by omega)
theorem yx_lnn : j_ln (yx Y kd N) Y.1.length = N := if_pos rfl
theorem yx_cl (h : yt_cl Y) : yt_cl (yx Y kd N) := by
  refine ⟨by rw [yx_len]; omega, fun o k ho => ?_⟩
  rw [yx_len] at ho ⊢
  by_cases e : o = Y.1.length
  · have e2 : j_rf (yx Y kd N) o k = 0 := if_pos e
    rw [e2]
    omega
  · rw [yx_rf (by omega)]
    have := h.2 o k (by omega)
    omega
theorem yx_w {t : ClassId} (hcl : yt_cl Y) (ht : (kd = 100 ∧ t = ty 0) ∨ (kd = 101 ∧ t = ty 1) ∨ (kd = 102 ∧ t = ty 2)) : j_w (yx Y kd N) ty (ax Y ad q) (mx Y M) = j_w Y ty ad M ++ [(q, .inl (t, N, .inl (fun _ => 0)))] := by
  have hen : j_en (yx Y kd N) ty (ax Y ad q) (mx Y M) Y.1.length = .inl (t, N, .inl (fun _ => 0)) := by
    have hm : mx Y M Y.1.length = fun _ => 0 := funext (fun k => if_pos rfl)
    unfold j_en
    rw [yx_kdn, yx_lnn, hm]
    rcases ht with ⟨rfl, rfl⟩ | ⟨rfl, rfl⟩ | ⟨rfl, rfl⟩
    · rw [if_pos rfl]
    · rw [if_neg (by decide), if_pos rfl]
    · rw [if_neg (by decide), if_neg (by decide), if_pos rfl]
  have hq : ax Y ad q Y.1.length = q := if_pos rfl
  unfold j_w
  rw [yx_len, List.range_succ, List.map_append, List.map_singleton, hen, hq]
  congr 1
  refine List.map_congr_left (fun o ho => ?_)
  have ho := List.mem_range.mp ho
  have ha : ∀ z, z < Y.1.length → ax Y ad q z = ad z := fun z hz => if_neg (by omega)
  rw [ha o ho]
  congr 1
  exact j_en_eq (yx_kd ho) (yx_ln ho) (funext (fun k => if_neg (by omega))) (fun k => by rw [yx_rf ho, ha _ (hcl.2 o k ho)])
theorem yx_ok (hY : j_ok Y) (hk : kd = 100 ∨ kd = 101 ∨ kd = 102) (hN : N < 1000000) : j_ok (yx Y kd N) := by
  obtain ⟨h1, h2, h3⟩ := hY
  have keep : ∀ {t c : Nat}, j_kd Y t = c → c < 999 → j_kd (yx Y kd N) t = c := fun h hc => by rw [yx_kd (j_lt h hc)]; exact h
  refine ⟨fun o ho k hk9 hf => ?_, fun o ho h i hi => ?_, fun o ho => ?_⟩
  · rw [yx_len] at ho
    by_cases e : o = Y.1.length
    · rw [e, yx_kdn] at hf
      exfalso
      rcases hk with rfl | rfl | rfl
      · exact absurd hf (show ¬ ((999 : Nat) < 200) by decide)
      · exact absurd hf (show ¬ ((999 : Nat) < 200) by decide)
      · exact absurd hf (show ¬ ((999 : Nat) < 200) by decide)
    · rw [yx_kd (o := o) (by omega)] at hf ⊢
      rw [yx_rf (by omega)]
      exact keep (h1 o (by omega) k hk9 hf) (by omega)
  · rw [yx_len] at ho
    by_cases e : o = Y.1.length
    · rw [e, yx_kdn] at h
      omega
    · rw [yx_kd (o := o) (by omega)] at h
      rw [yx_ln (by omega)] at hi
      rw [yx_rf (by omega)]
      exact keep (h2 o (by omega) h i hi) (by decide)
  · rw [yx_len] at ho
    by_cases e : o = Y.1.length
    · rw [e, yx_lnn, yx_kdn]
      exact ⟨hN, by omega⟩
    · rw [yx_ln (by omega), yx_kd (by omega)]
      exact h3 o (by omega)
end YX
/-- the class's 140 objects lie as they were made -/
def YE (Y : JY) : Prop := 140 ≤ Y.1.length ∧ yt_cl Y ∧ j_ok Y ∧ ∀ o, o < 140 → j_kd Y o = j_kd yt_X9 o ∧ (∀ k, j_rf Y o k = j_rf yt_X9 o k) ∧ j_ln Y o = j_ln yt_X9 o
theorem YE.start : YE yt_X9 := ⟨Nat.le_of_eq yt_X9_len.symm, yt_X9_cl, yt_X9_ok, fun _ _ => ⟨rfl, fun _ => rfl, rfl⟩⟩
theorem YE.more {Y : JY} {kd N : Nat} (h : YE Y) (hk : kd = 100 ∨ kd = 101 ∨ kd = 102) (hN : N < 1000000) : YE (yx Y kd N) := by
  obtain ⟨h1, h2, h3, h4⟩ := h
  refine ⟨by rw [yx_len]; omega, yx_cl h2, yx_ok h3 hk hN, fun o ho => ?_⟩
  obtain ⟨a, b, c⟩ := h4 o ho
  exact ⟨(yx_kd (by omega)).trans a, fun k => (yx_rf (by omega)).trans (b k), (yx_ln (by omega)).trans c⟩

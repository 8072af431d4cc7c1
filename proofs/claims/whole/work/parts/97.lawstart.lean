/-! ===== the law: its beginning ===== -/
theorem bX9 : ∀ j, j < 13 → defaultValue (tyX9 j) = vp_V [.null, .null, .null, .null, .null, .null, .null, .null, .null, .int 0, .int 0, .int 0, .int 0] j := fun j hj => match j, hj with
  | 0, _ => rfl
  | 1, _ => rfl
  | 2, _ => rfl
  | 3, _ => rfl
  | 4, _ => rfl
  | 5, _ => rfl
  | 6, _ => rfl
  | 7, _ => rfl
  | 8, _ => rfl
  | 9, _ => rfl
  | 10, _ => rfl
  | 11, _ => rfl
  | 12, _ => rfl
  | k + 13, h => absurd h (by omega)
theorem at_f_skip {t : JY × JM} {T : List (JY × JM)} {f : Nat → Nat} {fs : List (Nat → Nat)} {o o' n : Nat} (hl : t.1.1.length = n) (ho : n + o' = o) : at_f (t :: T) (f :: fs) o = at_f T fs o' := by
  show (if o < t.1.1.length then f o else at_f T fs (o - t.1.1.length)) = _
  rw [if_neg (by omega), show o - t.1.1.length = o' by omega]
theorem at_f_take {t : JY × JM} {T : List (JY × JM)} {f : Nat → Nat} {fs : List (Nat → Nat)} {o n : Nat} (hl : t.1.1.length = n) (ho : o < n) : at_f (t :: T) (f :: fs) o = f o := if_pos (by omega)
theorem yt_X9_len : yt_X9.1.length = 140 := by decide +kernel
theorem yt_M_len : yt_M.1.length = 34 := by decide +kernel
section ATY
variable {f9 fM fJ fD : Nat → Nat}
theorem at_Y_0 : at_f tl_Y [f9, fM, fJ, fD] 0 = f9 0 := at_f_take yt_X9_len (by decide)
theorem at_Y_140 : at_f tl_Y [f9, fM, fJ, fD] 140 = fM 0 := (at_f_skip (o' := 0) yt_X9_len rfl).trans (at_f_take yt_M_len (by decide))
theorem at_Y_174 : at_f tl_Y [f9, fM, fJ, fD] 174 = fJ 0 := (at_f_skip (o' := 34) yt_X9_len rfl).trans ((at_f_skip (o' := 0) yt_M_len rfl).trans (at_f_take (n := 1) rfl (by decide)))
theorem at_Y_175 : at_f tl_Y [f9, fM, fJ, fD] 175 = fD 0 := (at_f_skip (o' := 35) yt_X9_len rfl).trans ((at_f_skip (o' := 1) yt_M_len rfl).trans ((at_f_skip (n := 1) (o' := 0) rfl rfl).trans (at_f_take (n := 1) rfl (by decide))))
end ATY
theorem wt_J {ty : Nat → ClassId} {q : Nat} : j_w yt_J ty (fun _ => q) mt_0 = [(q, .inl (ty 4, 1, .inr (.inl (fun _ => 0))))] := rfl
theorem j_d00 : j_d 0 0 = 0 := by decide +kernel
theorem wt_D {ty : Nat → ClassId} {q : Nat} : j_w yt_D ty (fun _ => q) mt_0 = [(q, .inl (ty 5, 1, .inr (.inr (.inr (.inl (fun _ => 0))))))] := by
  have e : j_w yt_D ty (fun _ => q) mt_0 = [(q, .inl (ty 5, 1, .inr (.inr (.inr (.inl (fun _ => j_d 0 0))))))] := rfl
  rw [e, j_d00]
theorem whole_start {p : Program} {e : Env} {s : State} {m : MethodId} {below : List Frame} {meth : Method} {c : Code} (l : Launch) (hflags : l.flags = flags0) {b L : Nat} {xs : Nat → Int32} (hL : L ≤ 2048) (C0 : lw_At p s m meth c b L xs) : W p l e room_1 s m #[Value.ref b] below meth c s.heap [] 0 0 (lw_Z below #[Value.ref b] s) (entryFrame m ([Value.ref b] : List Value).toArray 9) := by
  obtain ⟨hx, hb, hr, hml, hown, hts, hX, hbl, hlocks, hgv⟩ := id C0
  have hl9 : l.stackTraces = false := by unfold Launch.stackTraces; rw [hflags]; decide +kernel
  have htj : ∀ w ∈ jwd, w.before #[Value.ref b] s = true := fun w h => hts w (List.mem_filter.mp h).1
  obtain ⟨D, ty, hK⟩ := ka_start hts htj
  have hA : ∀ q : Nat, s.heap.size ≤ q → (fun q : Nat => s.heap.size ≤ q) q := fun _ h => h
  have hbA : ¬ (fun q : Nat => s.heap.size ≤ q) b := Nat.not_le.mpr hbl
  have jx : JX (fun q : Nat => s.heap.size ≤ q) s s.heap := jx_start hgv hts (fun a h => Nat.not_le.mpr h)
  have jn : JNC D ty p s m #[Value.ref b] c cL_law 9 jlw := ⟨hx, hb, hml, hown, htj, hK, j_X_start hts⟩
  have w : JNW D (fun q : Nat => s.heap.size ≤ q) s.heap [] s.heap [] := ⟨fun k q h => by simp at h, ⟨fun i j p q h => by simp at h, fun k q h => by simp at h⟩, va_S.rf⟩
  have hl := lv_entry ([.ref b]) (n := 9) (Nat.le_of_ble_eq_true rfl)
  rw [lg_entry_eq]
  generalize (lg_sl ([.ref b]) ++ List.replicate (9 - (lg_sl ([.ref b])).length) Slot.unset).toArray = ls at hl ⊢
  have hl : lv_has ls 9 [(0, .ref b)] := hl
  refine jn_new (C := RX9) (T := TX9) (N := 13) (ci := 9) (fs := [.null, .null, .null, .null, .null, .null, .null, .null, .null, .int 0, .int 0, .int 0, .int 0]) jn w hA rfl jin_9 tyX9 tyX9_ok wd_1_24 wd_1_25 wd_1_1 bX9 ⟨Nat.le_of_ble_eq_true rfl, Nat.le_of_ble_eq_true rfl⟩ dL_law_0 (fun q9 H9 v9 => ?_)
  refine lv_dup hx hb dL_law_3 rfl ?_
  refine jn_call (As := []) (rest := [.ref q9]) jn v9 hA (c_X9_init) ⟨⟨wd_1_28, wd_1_1, wd_1_26, by decide⟩, rfl, wd_1_27⟩ rfl hl.1 ⟨Nat.le_of_ble_eq_true rfl, Nat.le_of_ble_eq_true rfl, Nat.le_of_ble_eq_true rfl, Nat.le_of_ble_eq_true rfl⟩ (Nat.le_of_ble_eq_true rfl) dL_law_4 (fun f9 H1 L1 e9 u9 => ?_)
  subst e9
  refine lv_astore_n (lv' := [(1, .ref (f9 0)), (0, .ref b)]) hx hb dL_law_7 rfl hl (by decide) rfl (fun ls hl => ?_)
  refine jn_new (C := RX10) (T := TX10) (N := 61) (ci := 10) (fs := [.int 0, .null, .null, .int 0, .int 0, .null, .int 0, .null, .null, .null, .int 0, .int 0, .null, .null, .int 0, .null, .int 0, .int 0, .int 0, .null, .null, .null, .int 0, .null, .null, .int 0, .null, .int 0, .null, .int 0, .null, .int 0, .null, .int 0, .null, .int 0, .null, .null, .int 0, .null, .int 0, .null, .int 0, .null, .int 0, .null, .null, .null, .int 0, .null, .int 0, .int 0, .null, .int 0, .null, .null, .int 0, .null, .int 0, .int 0, .null]) jn u9 hA rfl jin_10 tyX10 tyX10_ok wd_6_53 wd_6_54 wd_1_11 bX10 ⟨Nat.le_of_ble_eq_true rfl, Nat.le_of_ble_eq_true rfl⟩ dL_law_8 (fun q10 H10 v10 => ?_)
  refine lv_dup hx hb dL_law_11 rfl ?_
  refine jn_call (As := []) (rest := [.ref q10]) jn v10 hA (c_X10_init) ⟨⟨wd_6_57, wd_1_11, wd_6_55, by decide⟩, rfl, wd_6_56⟩ rfl hl.1 ⟨Nat.le_of_ble_eq_true rfl, Nat.le_of_ble_eq_true rfl, Nat.le_of_ble_eq_true rfl, Nat.le_of_ble_eq_true rfl⟩ (Nat.le_of_ble_eq_true rfl) dL_law_12 (fun fM H2 L2 e10 u10 => ?_)
  subst e10
  refine lv_astore_n (lv' := [(2, .ref (fM 0)), (1, .ref (f9 0)), (0, .ref b)]) hx hb dL_law_15 rfl hl (by decide) rfl (fun ls hl => ?_)
  refine lv_iconst (v := nI 1) hx hb dL_law_16 (by decide) ?_
  refine jn_newl (N := 1) jn u10 hA (by decide) (by decide) (by decide) ⟨Nat.le_of_ble_eq_true rfl, Nat.le_of_ble_eq_true rfl⟩ dL_law_17 (fun qJ H3 w3 => ?_)
  refine lv_astore_n (lv' := [(3, .ref qJ), (2, .ref (fM 0)), (1, .ref (f9 0)), (0, .ref b)]) hx hb dL_law_19 rfl hl (by decide) rfl (fun ls hl => ?_)
  refine lv_iconst (v := nI 1) hx hb dL_law_20 (by decide) ?_
  refine jn_newd (N := 1) jn w3 hA (by decide) (by decide) (by decide) ⟨Nat.le_of_ble_eq_true rfl, Nat.le_of_ble_eq_true rfl⟩ dL_law_21 (fun qD H4 w4 => ?_)
  refine lv_astore (lv' := [(4, .ref qD), (3, .ref qJ), (2, .ref (fM 0)), (1, .ref (f9 0)), (0, .ref b)]) hx hb dL_law_23 hl (by decide) rfl (fun ls hl => ?_)
  refine lv_iconst (v := nI 0) hx hb dL_law_25 (by decide) ?_
  refine lv_istore (lv' := [(5, .int (nI 0)), (4, .ref qD), (3, .ref qJ), (2, .ref (fM 0)), (1, .ref (f9 0)), (0, .ref b)]) hx hb dL_law_26 hl (by decide) rfl (fun ls hl => ?_)
  have jw : JW D yt_Y ty (at_f tl_Y [f9, fM, fun _ => qJ, fun _ => qD]) (fun q : Nat => s.heap.size ≤ q) s.heap mt_Y H4 L2 := by
    have e : ((([] : va_W) ++ j_w yt_X9 ty f9 mt_X9 ++ j_w yt_M ty fM mt_M) ++ [(qJ, .inl (ty 4, 1, .inr (.inl (fun _ => 0))))]) ++ [(qD, .inl (ty 5, 1, .inr (.inr (.inr (.inl (fun _ => 0))))))] = j_w yt_Y ty (at_f tl_Y [f9, fM, fun _ => qJ, fun _ => qD]) mt_Y := by
      rw [wt_Y, ← wt_J, ← wt_D]
      simp only [wt_f, tl_Y, List.nil_append, List.append_nil, List.append_assoc]
    have w5 : JNW D (fun q : Nat => s.heap.size ≤ q) s.heap (((([] : va_W) ++ j_w yt_X9 ty f9 mt_X9 ++ j_w yt_M ty fM mt_M) ++ [(qJ, .inl (ty 4, 1, .inr (.inl (fun _ => 0))))]) ++ [(qD, .inl (ty 5, 1, .inr (.inr (.inr (.inl (fun _ => 0))))))]) H4 L2 := w4
    rw [e] at w5
    exact w5
  have jc : JC D yt_Y ty p s m #[Value.ref b] c cL_law 9 jlw := ⟨hx, hb, hml, hown, htj, hK, yt_Y_ok⟩
  have hl9b : lv_has ls 9 (lw_ls (at_f tl_Y [f9, fM, fun _ => qJ, fun _ => qD]) b 0) := by
    unfold lw_ls
    rw [at_Y_0, at_Y_140, at_Y_174, at_Y_175]
    exact lv_sub hl [5, 4, 3, 2, 1, 0] rfl
  refine lw_loop (L := L) (b := b) (xs := xs) (ty := ty) (D := D) (Y := yt_Y) ⟨jc, jx, hA, ⟨hX, hbl, hbA, hL⟩, yt_Y_H, yt_Y_kd, hl9, rfl, rfl⟩ rfl rfl (fun H locs ls cells slots M w hc hs => ?_) 513 0 H4 L2 ls _ _ mt_Y rfl (by omega) (Nat.le_of_ble_eq_true rfl) (Nat.le_of_ble_eq_true rfl) jw mt_Y_R hl9b
  refine lv_iconst (v := 1) hx hb dL_law_2346 (by decide) ?_
  refine va_forget (fun q hq => w.2.2.2.2 q hq) (j_wid (k := 603072) (n := 7186538) hc hs ?_)
  exact W.base (lw_ret (d0 := s.drawn) (Drawn.sameBut.refl s.drawn lw_cs) hx hb hr hlocks dL_law_2347)

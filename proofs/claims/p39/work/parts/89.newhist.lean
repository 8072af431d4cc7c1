/-! ===== constructors: History ===== -/
theorem yt_L_ok {n : Nat} (h : n < 1000000) : j_ok (yt_L n) := by
  have two : ∀ o, o < (yt_L n).1.length → o = 0 ∨ o = 1 := fun o ho => by
    have : o < 2 := ho
    omega
  refine ⟨fun o ho k hk hf => ?_, fun o ho hk => ?_, fun o ho => ?_⟩
  · rcases two o ho with rfl | rfl
    · match k, hf with
      | 0, _ => rfl
      | 1, hf => exact absurd hf (by show ¬ (200 < 200); decide)
      | k + 2, hf => exact absurd hf (by show ¬ (999 < 200); decide)
    · exact absurd hf (by show ¬ (999 < 200); decide)
  · rcases two o ho with rfl | rfl
    · exact absurd hk (by show ¬ (4 = 103); decide)
    · exact absurd hk (by show ¬ (100 = 103); decide)
  · rcases two o ho with rfl | rfl
    · exact ⟨by show 0 < 1000000; decide, Or.inl (by show 4 < 11; decide)⟩
    · exact ⟨h, Or.inr (Or.inl rfl)⟩
/-- the registers of a history as its constructor leaves them -/
def mt_F8 : JM := (s_X4_fillWith (yt_L 8) mt_0 0 (nI 0) (nI 8)).getD mt_0
theorem mt_F8_ok : s_X4_fillWith (yt_L 8) mt_0 0 (nI 0) (nI 8) = some mt_F8 ∧ LN mt_F8 0 8 (List.replicate 8 (nI 0)) := by
  obtain ⟨M', b1, b2, b3⟩ := p_fillWith (Y := yt_L 8) (M := mt_0) (o := 0) (cap := 8) ⟨rfl, rfl, by decide⟩ (nI 0) (k := 8) (by decide)
  have e : mt_F8 = M' := by
    unfold mt_F8
    rw [b1]
    rfl
  rw [e]
  exact ⟨b1, b3⟩
theorem yt_S4_cl : yt_cl (yt_S 4) := ⟨by decide, by
  have key : ∀ o k, o < 12 → j_rf (yt_S 4) o k < 12 := fun o k ho => by
    show (if o = 0 then (if k = 0 then 3 else 1) else if o < 3 then 2 else if o = 3 then (if k < 4 then 4 + 2 * k else 0) else if o % 2 = 0 then o + 1 else o) < 12
    repeat (any_goals split)
    all_goals omega
  exact key⟩
theorem yt_S8_cl : yt_cl (yt_S 8) := ⟨by decide, by
  have key : ∀ o k, o < 20 → j_rf (yt_S 8) o k < 20 := fun o k ho => by
    show (if o = 0 then (if k = 0 then 3 else 1) else if o < 3 then 2 else if o = 3 then (if k < 8 then 4 + 2 * k else 0) else if o % 2 = 0 then o + 1 else o) < 20
    repeat (any_goals split)
    all_goals omega
  exact key⟩
def tl_X2 : List (JY × JM) := [(yt_S 8, mt_0), (yt_L 8, mt_F8)]
def yt_X2 : JY := yt_tree 2 tl_X2
def mt_X2 : JM := mt_tree (fun _ => 0) tl_X2
theorem tl_X2_cl : ∀ t ∈ tl_X2, yt_cl t.1 := List.forall_mem_cons.mpr ⟨yt_S8_cl, List.forall_mem_cons.mpr ⟨yt_L_cl, fun _ h => absurd h List.not_mem_nil⟩⟩
theorem yt_X2_cl : yt_cl yt_X2 := yt_tree_cl tl_X2_cl
set_option maxRecDepth 20000 in
theorem c_X2_init {D : va_G} {ty : Nat → ClassId} {l : Launch} {a sz : Nat} : JN D ty l yX2_init cX2_init 1 3 55 22 230 2 a sz [.null, .null, .int 0, .int 0] [] yt_X2 mt_X2 := by
  refine jn_of (ix := 3) (by decide) rfl (Nat.le_of_ble_eq_true rfl) dX2_init_0 dX2_init_1 wd_3_208 (by decide) (by decide) (fun p e s m below meth c args R Q A hRf hRl hRc hRs hnm jn hA w kr ls hl => ?_)
  have hx := jn.1
  have hb := jn.2.1
  have hl : lv_has ls 1 [(0, .ref a)] := hl
  refine lv_aload_n hx hb dX2_init_4 rfl (lv_at hl 0 rfl) ?_
  refine jn_new (C := RX7) (T := TX7) (N := 2) (ci := 7) (fs := [.null, .null]) jn w hA rfl jin_7 tyX7 tyX7_ok wd_3_209 wd_3_176 wd_1_2 bX7 ⟨by omega, by omega⟩ dX2_init_5 (fun q0 H0a v0 => ?_)
  refine lv_dup hx hb dX2_init_8 rfl ?_
  refine lv_bipush (v := nI 8) hx hb dX2_init_9 (by decide) ?_
  refine jn_call (As := [.int (nI 8)]) (rest := [.ref q0, .ref a]) jn v0 hA (c_X7_init_8) ⟨⟨wd_3_179, wd_1_2, wd_3_210, by decide⟩, rfl, wd_3_178⟩ rfl hl.1 ⟨by omega, by omega, by omega, by omega⟩ (Nat.le_of_ble_eq_true rfl) dX2_init_11 (fun ad0 H0b L0b e0 u0 => ?_)
  subst e0
  refine jn_putF (C := RX2) (T := TX2) (N := 4) (k := 0) (ci := 2) jn hnm u0 rfl jin_2 tyX2 tyX2_ok nmX2 (by decide) wd_3_214 rfl rfl rfl rfl (Nat.le_of_ble_eq_true rfl) dX2_init_14 (fun H0 L0 w0 => ?_)
  refine lv_aload_n hx hb dX2_init_17 rfl (lv_at hl 0 rfl) ?_
  refine jn_new (C := RX4) (T := TX4) (N := 2) (ci := 4) (fs := [.null, .int 0]) jn w0 hA rfl jin_4 tyX4 tyX4_ok wd_3_211 wd_3_182 wd_1_3 bX4 ⟨by omega, by omega⟩ dX2_init_18 (fun q1 H1a v1 => ?_)
  refine lv_dup hx hb dX2_init_21 rfl ?_
  refine lv_bipush (v := nI 8) hx hb dX2_init_22 (by decide) ?_
  refine jn_call (As := [.int (nI 8)]) (rest := [.ref q1, .ref a]) jn v1 hA (c_X4_init (n := 8) (by decide)) ⟨⟨wd_3_185, wd_1_3, wd_3_212, by decide⟩, rfl, wd_3_184⟩ rfl hl.1 ⟨by omega, by omega, by omega, by omega⟩ (Nat.le_of_ble_eq_true rfl) dX2_init_24 (fun ad1 H1b L1b e1 u1 => ?_)
  subst e1
  refine jn_putF (C := RX2) (T := TX2) (N := 4) (k := 1) (ci := 2) jn hnm u1 rfl jin_2 tyX2 tyX2_ok nmX2 (by decide) wd_3_215 rfl rfl rfl rfl (Nat.le_of_ble_eq_true rfl) dX2_init_27 (fun H1 L1 w1 => ?_)
  refine lv_aload_n hx hb dX2_init_30 rfl (lv_at hl 0 rfl) ?_
  refine jn_get (C := RX2) (T := TX2) (N := 4) (k := 1) (ci := 2) jn w1 rfl jin_2 (by decide) wd_3_215 rfl dX2_init_31 ?_
  refine lv_iconst (v := nI 0) hx hb dX2_init_34 (by decide) ?_
  refine lv_bipush (v := nI 8) hx hb dX2_init_35 (by decide) ?_
  have w2 : JNW D A s.heap (((a, .inr (2, [.ref (ad0 0), .ref (ad1 0), .int 0, .int 0])) :: (([] : va_W) ++ j_w (yt_S 8) ty ad0 mt_0)) ++ j_w (yt_L 8) ty ad1 mt_0) H1 L1 := w1
  refine jn_vv (o := 0) (ci := 4) [.int (nI 0), .int (nI 8)] [] jn w2 hA (yt_L_ok (by decide)) rfl (by decide) rfl (c_X4_fillWith (yt_L_ok (by decide)) rfl mt_F8_ok.1) ⟨⟨wd_2_25, wd_1_3, wd_3_213, by decide⟩, wd_2_23, wd_2_24⟩ rfl hl.1 ⟨by omega, by omega, by omega, by omega⟩ (Nat.le_of_ble_eq_true rfl) dX2_init_37 (fun H3 L3 w3 => ?_)
  have hT : ((([] : va_W) ++ j_w (yt_S 8) ty ad0 (mt_0)) ++ j_w (yt_L 8) ty ad1 (mt_F8)) = wt_f ty tl_X2 [ad0, ad1] := by
    simp only [wt_f, tl_X2, List.nil_append, List.append_nil, List.append_assoc]
  have w9 : JNW D A s.heap (j_w yt_X2 ty (at_tree a tl_X2 [ad0, ad1]) mt_X2) H3 L3 := by
    have e9 := wt_tree (ty := ty) (c := 2) (a := a) (T := tl_X2) (fs := [ad0, ad1]) (M0 := fun _ => 0) rfl tl_X2_cl
    unfold yt_X2 mt_X2
    rw [e9, ← hT]
    exact w3
  exact kr _ _ _ _ _ _ (at_tree a tl_X2 [ad0, ad1]) rfl w9 rfl rfl dX2_init_40

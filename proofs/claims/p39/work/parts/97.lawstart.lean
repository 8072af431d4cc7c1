/-! ===== the law: its walk from the entry ===== -/
set_option maxRecDepth 100000 in
theorem whole_start {p : Program} {e : Env} {s : State} {m : MethodId} {below : List Frame} {meth : Method} {c : Code} (l : Launch) (hflags : l.flags = flags0) {b L : Nat} {xs : Nat → Int32} (hL : L ≤ 260) (C0 : lw_At p s m meth c b L xs) : W p l e room_1 s m #[Value.ref b] below meth c s.heap [] 0 0 (lw_Z below #[Value.ref b] s) (entryFrame m ([Value.ref b] : List Value).toArray 18) := by
  obtain ⟨hx, hb, hr, hml, hown, hts, hX, hbl, hlocks, hgv⟩ := id C0
  have hl9 : l.stackTraces = false := by unfold Launch.stackTraces; rw [hflags]; decide +kernel
  have htj : ∀ w ∈ jwd, w.before #[Value.ref b] s = true := fun w h => hts w (List.mem_filter.mp h).1
  obtain ⟨D, ty, hK⟩ := ka_start hts htj
  have hA : ∀ q : Nat, s.heap.size ≤ q → (fun q : Nat => s.heap.size ≤ q) q := fun _ h => h
  have hbA : ¬ (fun q : Nat => s.heap.size ≤ q) b := Nat.not_le.mpr hbl
  have jx : JX (fun q : Nat => s.heap.size ≤ q) s s.heap := jx_start hgv hts (fun a h => Nat.not_le.mpr h)
  have hJX := j_X_start hts
  have hS0 : va_S (fun q : Nat => s.heap.size ≤ q) s.heap s.heap [] := va_S.rf
  have hl := lv_entry ([.ref b]) (n := 18) (Nat.le_of_ble_eq_true rfl)
  rw [lg_entry_eq]
  generalize (lg_sl ([.ref b]) ++ List.replicate (18 - (lg_sl ([.ref b])).length) Slot.unset).toArray = ls at hl ⊢
  have hl : lv_has ls 18 [(0, .ref b)] := hl
  obtain ⟨r0, md, sh, ds, hs, hE0, hmd, hsh, hST, hlen, h3, hCM, hMG, hPC⟩ := b_build L xs hL
  have sd := sd_L_51
  refine lv_aload_n hx hb dL_law_0 rfl (lv_at hl 0 rfl) ?_
  refine va_callr (va_runS (As := [.ref b]) (rest := []) (Ts := jwd) ⟨hx, hb, hml, hown, htj⟩ (c_L_build (sz := s.heap.size) (D := D) (ty := ty) (b := b) hL hE0) ⟨j_cwB htj sd.1.1 sd.1.2.1 sd.1.2.2.1 sd.1.2.2.2 ⟨Nat.le_of_ble_eq_true rfl, Nat.le_of_ble_eq_true rfl⟩, htj _ sd.2⟩
    ⟨bd_blind, fun U hU hW => ⟨rfl, by rw [hU], by rw [hU]; exact hX.moved hW.alike, by rw [hU]; exact hbl, va_K.moved hW.alike hK, j_X.moved hW hJX⟩⟩ rfl rfl hl.1 rfl (lv_room (Nat.le_of_ble_eq_true rfl)) dL_law_1 ⟨Nat.le_of_ble_eq_true rfl, Nat.le_of_ble_eq_true rfl⟩) hS0 (fun q _ h => h) (fun q h => h) (fun ad ra t H1 locs1 ht hvm hw hB hz hk hS => ?_)
  obtain ⟨rfl, hP1, hK1, hD1⟩ := hB
  rw [ht] at hP1
  have jw0 : JW D yt_X9 ty ad (fun q : Nat => s.heap.size ≤ q) s.heap r0 H1 locs1 := ⟨hP1, hD1, hS⟩
  refine lv_astore_n (lv' := [(1, .ref (ad 0)), (0, .ref b)]) hx hb dL_law_4 rfl hl (by decide) rfl (fun ls hl => ?_)
  -- save, compare, moves
  have E0 : YE yt_X9 := YE.start
  have n0 : yt_X9.1.length = 140 := yt_X9_len
  have jc0 : JC D yt_X9 ty p s m #[Value.ref b] c cL_law 18 jlw := ⟨hx, hb, hml, hown, htj, hK, E0.2.2.1⟩
  obtain ⟨mn, M1, P, anc, hm1, hm4, hE1, f1, st1, cm1⟩ := s_1 (L := L) (sc := xs) E0.H hST hCM
  have mg1 := hMG.cf f1 (by decide)
  have pc1 := hPC.cf f1 (by decide)
  refine g_1 (L := L) (b := b) (xs := xs) jc0 hA hX hbl hbA hL yt_X9_kd (Nat.le_of_ble_eq_true rfl) (Nat.le_of_ble_eq_true rfl) (Nat.le_of_ble_eq_true rfl) (Nat.le_of_ble_eq_true rfl) hE1 jw0 (lv_sub hl [1, 0] rfl) (fun o2 o3 o4 N H2 locs2 ls hr2 jw1 hl => ?_)
  cases hr2
  -- two rows of booleans
  refine lv_bipush (v := 24) hx hb dL_law_35 (by decide) ?_
  refine jl_newz (N := 24) jc0 E0 jw1 hA (by decide) (by decide) (by decide) ⟨(Nat.le_of_ble_eq_true rfl), (Nat.le_of_ble_eq_true rfl)⟩ dL_law_37 (fun q5 H3 jw2 => ?_)
  have E1 : YE (yx yt_X9 101 24) := E0.more (by decide) (by decide)
  have n1 : (yx yt_X9 101 24).1.length = 141 := by rw [yx_len, n0]
  have jc1 : JC D (yx yt_X9 101 24) ty p s m #[Value.ref b] c cL_law 18 jlw := ⟨hx, hb, hml, hown, htj, hK, E1.2.2.1⟩
  refine lv_astore (lv' := [(5, .ref q5), (0, .ref b), (1, .ref (ad 0)), (2, .int (nI (f_sum ds 0 4))), (3, .int (nI mn)), (4, .int (nI (q_mv (ds 1) (ds 2) mn 24 (q_fa P) (q_fb P) []).length))]) hx hb dL_law_39 hl (by decide) rfl (fun ls hl => ?_)
  refine lv_bipush (v := 24) hx hb dL_law_41 (by decide) ?_
  refine jl_newz (N := 24) jc1 E1 jw2 hA (by decide) (by decide) (by decide) ⟨(Nat.le_of_ble_eq_true rfl), (Nat.le_of_ble_eq_true rfl)⟩ dL_law_43 (fun q6 H4 jw3 => ?_)
  have E2 : YE (yx (yx yt_X9 101 24) 101 24) := E1.more (by decide) (by decide)
  have n2 : (yx (yx yt_X9 101 24) 101 24).1.length = 142 := by rw [yx_len, n1]
  have jc2 : JC D (yx (yx yt_X9 101 24) 101 24) ty p s m #[Value.ref b] c cL_law 18 jlw := ⟨hx, hb, hml, hown, htj, hK, E2.2.2.1⟩
  refine lv_astore (lv' := [(6, .ref q6), (5, .ref q5), (0, .ref b), (1, .ref (ad 0)), (2, .int (nI (f_sum ds 0 4))), (3, .int (nI mn)), (4, .int (nI (q_mv (ds 1) (ds 2) mn 24 (q_fa P) (q_fb P) []).length))]) hx hb dL_law_45 hl (by decide) rfl (fun ls hl => ?_)
  obtain ⟨Y2, hY2⟩ : ∃ z, z = yx (yx yt_X9 101 24) 101 24 := ⟨_, rfl⟩
  obtain ⟨ad2, had2⟩ : ∃ z, z = ax (yx yt_X9 101 24) (ax yt_X9 ad q5) q6 := ⟨_, rfl⟩
  obtain ⟨M2, hM2⟩ : ∃ z, z = mx (yx yt_X9 101 24) (mx yt_X9 M1) := ⟨_, rfl⟩
  have ad_0 : ad2 0 = ad 0 := by rw [had2, ax_o (by rw [n1]; omega), ax_o (by rw [n0]; omega)]
  have ad_5 : ad2 140 = q5 := by rw [had2, ax_o (by rw [n1]; omega), ax_n n0]
  have ad_6 : ad2 141 = q6 := by rw [had2, ax_n n1]
  have z140 : ∀ t, M2 140 t = 0 := fun t => by rw [hM2, mx_o (by rw [n1]; omega), mx_n n0]
  have z141 : ∀ t, M2 141 t = 0 := fun t => by rw [hM2, mx_n n1]
  have fr2 : JFr 140 145 M1 M2 := by
    rw [hM2]
    exact (mx_fr (by rw [n0]; omega) (by rw [n0]; omega)).trans (mx_fr (by rw [n1]; omega) (by rw [n1]; omega))
  have k140 : j_kd Y2 140 = 101 := by
    have e1 : j_kd (yx yt_X9 101 24) 140 = 101 := by have := yx_kdn (Y := yt_X9) (kd := 101) (N := 24); rw [n0] at this; exact this
    rw [hY2, yx_kd (by rw [n1]; omega)]
    exact e1
  have k141 : j_kd Y2 141 = 101 := by
    have := yx_kdn (Y := yx yt_X9 101 24) (kd := 101) (N := 24)
    rw [n1] at this
    rw [hY2]
    exact this
  have l140 : j_ln Y2 140 = 24 := by
    have e1 : j_ln (yx yt_X9 101 24) 140 = 24 := by have := yx_lnn (Y := yt_X9) (kd := 101) (N := 24); rw [n0] at this; exact this
    rw [hY2, yx_ln (by rw [n1]; omega)]
    exact e1
  have l141 : j_ln Y2 141 = 24 := by
    have := yx_lnn (Y := yx yt_X9 101 24) (kd := 101) (N := 24)
    rw [n1] at this
    rw [hY2]
    exact this
  rw [← hY2] at E2 n2 jc2 jw3
  rw [← had2, ← hM2] at jw3
  rw [← ad_0, ← ad_5, ← ad_6] at hl
  obtain ⟨M3, ph, d3, hs3, hE2, st3, pc3, mg3, dk3, h24⟩ := s_2 (L := L) (sc := xs) (mn := mn) E2.H l140 l141 (st1.up fr2) hlen hm1 hm4 (cm1.frame fr2 (by omega)) (mg1.frame fr2 (by omega)) (pc1.frame fr2 (by omega)) z140 z141 (nI (f_sum ds 0 4))
  refine g_2 (L := L) (b := b) (xs := xs) jc2 hA hX hbl hbA hL (E2.kd (by omega) yt_X9_kd) k140 k141 (Nat.le_of_ble_eq_true rfl) (Nat.le_of_ble_eq_true rfl) (Nat.le_of_ble_eq_true rfl) (Nat.le_of_ble_eq_true rfl) hE2 jw3 (lv_sub hl [2, 3, 4, 5, 6, 1, 0] rfl) (fun o7 o8 N H5 locs5 ls hr5 jw4 hl => ?_)
  cases hr5
  -- a row of ints
  refine lv_iload hx hb dL_law_277 (lv_at hl 3 rfl) ?_
  refine jl_newi (N := (d3 3).length) jc2 E2 jw4 hA (nI_pos (by omega)) (nI_clamp (by omega)) (by omega) ⟨(Nat.le_of_ble_eq_true rfl), Nat.le_trans (Nat.add_le_add_left h24 _) (Nat.le_of_ble_eq_true rfl)⟩ dL_law_279 (fun q9 H6 jw5 => ?_)
  refine lv_astore (lv' := [(9, .ref q9), (1, .ref (ad2 0)), (2, .int (nI (f_sum ds 0 4))), (7, .int (nI ph.length)), (8, .int (nI (d3 3).length))]) hx hb dL_law_281 hl (by decide) rfl (fun ls hl => ?_)
  obtain ⟨Y3, hY3⟩ : ∃ z, z = yx Y2 100 (d3 3).length := ⟨_, rfl⟩
  obtain ⟨ad3, had3⟩ : ∃ z, z = ax Y2 ad2 q9 := ⟨_, rfl⟩
  obtain ⟨M4, hM4⟩ : ∃ z, z = mx Y2 M3 := ⟨_, rfl⟩
  have E3 : YE Y3 := by rw [hY3]; exact E2.more (by decide) (by omega)
  have n3 : Y3.1.length = 143 := by rw [hY3, yx_len, n2]
  have jc3 : JC D Y3 ty p s m #[Value.ref b] c cL_law 18 jlw := ⟨hx, hb, hml, hown, htj, hK, E3.2.2.1⟩
  have ad3_0 : ad3 0 = ad2 0 := by rw [had3, ax_o (by rw [n2]; omega)]
  have ad3_9 : ad3 142 = q9 := by rw [had3, ax_n n2]
  have fr3 : JFr 140 145 M3 M4 := by
    rw [hM4]
    exact mx_fr (by rw [n2]; omega) (by rw [n2]; omega)
  have k142 : j_kd Y3 142 = 100 := by
    have := yx_kdn (Y := Y2) (kd := 100) (N := (d3 3).length)
    rw [n2] at this
    rw [hY3]
    exact this
  have l142 : j_ln Y3 142 = (d3 3).length := by
    have := yx_lnn (Y := Y2) (kd := 100) (N := (d3 3).length)
    rw [n2] at this
    rw [hY3]
    exact this
  rw [← hY3, ← had3, ← hM4] at jw5
  rw [← ad3_0, ← ad3_9] at hl
  have pc3' : PC M4 127 true (d3 1) (d3 2) ph [] := by rw [dk3 1 (by decide), dk3 2 (by decide)]; exact pc3.frame fr3 (by omega)
  obtain ⟨M5, hs5, hE3, st5, mg5⟩ := s_3 (L := L) (sc := xs) E3.H l142 (st3.up fr3) h24 pc3' (mg3.frame fr3 (by omega)) (nI (f_sum ds 0 4))
  refine g_3 (L := L) (b := b) (xs := xs) hl9 jc3 jx hA hX hbl hbA hL (E3.kd (by omega) yt_X9_kd) k142 (Nat.le_of_ble_eq_true rfl) (Nat.le_of_ble_eq_true rfl) (Nat.le_of_ble_eq_true rfl) (Nat.le_trans (Nat.add_le_add_right (Nat.add_le_add_left h24 _) _) (Nat.le_of_ble_eq_true rfl)) hE3 jw5 (lv_sub hl [1, 2, 3, 4, 0] rfl) (fun N H7 locs7 ls hr7 jw6 hl => ?_)
  cases hr7
  -- the first input
  refine lv_aload_n hx hb dL_law_570 rfl (lv_at hl 0 rfl) ?_
  refine lv_bipush (v := 7) hx hb dL_law_571 (by decide) ?_
  refine jl_newc (N := 7) jc3 E3 jw6 hA (by decide) (by decide) (by decide) ⟨(Nat.le_of_ble_eq_true rfl), Nat.le_trans (Nat.add_le_add_right (Nat.add_le_add_right (Nat.add_le_add_left h24 _) _) _) (Nat.le_of_ble_eq_true rfl)⟩ dL_law_573 (fun q10 H8 jw7 => ?_)
  obtain ⟨Y4, hY4⟩ : ∃ z, z = yx Y3 102 7 := ⟨_, rfl⟩
  obtain ⟨ad4, had4⟩ : ∃ z, z = ax Y3 ad3 q10 := ⟨_, rfl⟩
  obtain ⟨M6, hM6⟩ : ∃ z, z = mx Y3 M5 := ⟨_, rfl⟩
  have E4 : YE Y4 := by rw [hY4]; exact E3.more (by decide) (by decide)
  have n4 : Y4.1.length = 144 := by rw [hY4, yx_len, n3]
  have jc4 : JC D Y4 ty p s m #[Value.ref b] c cL_law 18 jlw := ⟨hx, hb, hml, hown, htj, hK, E4.2.2.1⟩
  have ad4_0 : ad4 0 = ad3 0 := by rw [had4, ax_o (by rw [n3]; omega)]
  have ad4_10 : ad4 143 = q10 := by rw [had4, ax_n n3]
  have fr4 : JFr 140 145 M5 M6 := by
    rw [hM6]
    exact mx_fr (by rw [n3]; omega) (by rw [n3]; omega)
  have k143 : j_kd Y4 143 = 102 := by
    have := yx_kdn (Y := Y3) (kd := 102) (N := 7)
    rw [n3] at this
    rw [hY4]
    exact this
  have l143 : j_ln Y4 143 = 7 := by
    have := yx_lnn (Y := Y3) (kd := 102) (N := 7)
    rw [n3] at this
    rw [hY4]
    exact this
  rw [← hY4, ← had4, ← hM6] at jw7
  rw [← ad4_0] at hl ⊢
  rw [← ad4_10]
  obtain ⟨M7, hE4, st7, mg7⟩ := s_4 (L := L) (sc := xs) E4.H l143 (st5.up fr4) (mg5.frame fr4 (by omega)) (nI (f_sum ds 0 4)) (nI (d3 3).length)
  refine g_4 (L := L) (b := b) (xs := xs) jc4 hA hX hbl hbA hL (E4.kd (by omega) yt_X9_kd) k143 (Nat.le_of_ble_eq_true rfl) (Nat.le_of_ble_eq_true rfl) (Nat.le_of_ble_eq_true rfl) (Nat.le_trans (Nat.add_le_add_right (Nat.add_le_add_right (Nat.add_le_add_right (Nat.add_le_add_left h24 _) _) _) _) (Nat.le_of_ble_eq_true rfl)) hE4 jw7 (lv_sub hl [0, 1, 2] rfl) (fun N H9 locs9 ls hr9 jw8 hl => ?_)
  cases hr9
  -- the second input, and the end
  refine lv_aload_n hx hb dL_law_665 rfl (lv_at hl 0 rfl) ?_
  refine lv_iconst (v := 3) hx hb dL_law_666 (by decide) ?_
  refine jl_newc (N := 3) jc4 E4 jw8 hA (by decide) (by decide) (by decide) ⟨(Nat.le_of_ble_eq_true rfl), Nat.le_trans (Nat.add_le_add_right (Nat.add_le_add_right (Nat.add_le_add_right (Nat.add_le_add_left h24 _) _) _) _) (Nat.le_of_ble_eq_true rfl)⟩ dL_law_667 (fun q11 H10 jw9 => ?_)
  obtain ⟨Y5, hY5⟩ : ∃ z, z = yx Y4 102 3 := ⟨_, rfl⟩
  obtain ⟨ad5, had5⟩ : ∃ z, z = ax Y4 ad4 q11 := ⟨_, rfl⟩
  obtain ⟨M8, hM8⟩ : ∃ z, z = mx Y4 M7 := ⟨_, rfl⟩
  have E5 : YE Y5 := by rw [hY5]; exact E4.more (by decide) (by decide)
  have jc5 : JC D Y5 ty p s m #[Value.ref b] c cL_law 18 jlw := ⟨hx, hb, hml, hown, htj, hK, E5.2.2.1⟩
  have ad5_0 : ad5 0 = ad4 0 := by rw [had5, ax_o (by rw [n4]; omega)]
  have ad5_11 : ad5 144 = q11 := by rw [had5, ax_n n4]
  have fr5 : JFr 140 145 M7 M8 := by
    rw [hM8]
    exact mx_fr (by rw [n4]; omega) (by rw [n4]; omega)
  have k144 : j_kd Y5 144 = 102 := by
    have := yx_kdn (Y := Y4) (kd := 102) (N := 3)
    rw [n4] at this
    rw [hY5]
    exact this
  have l144 : j_ln Y5 144 = 3 := by
    have := yx_lnn (Y := Y4) (kd := 102) (N := 3)
    rw [n4] at this
    rw [hY5]
    exact this
  rw [← hY5, ← had5, ← hM8] at jw9
  rw [← ad5_0] at hl ⊢
  rw [← ad5_11]
  obtain ⟨M9, hE5⟩ := s_5 (L := L) (sc := xs) E5.H l144 (st7.up fr5) (by rw [f_up_s]; rfl) h3 (mg7.frame fr5 (by omega))
  refine g_5 (L := L) (b := b) (xs := xs) jc5 hA hX hbl hbA hL (E5.kd (by omega) yt_X9_kd) k144 (Nat.le_of_ble_eq_true rfl) (Nat.le_of_ble_eq_true rfl) (Nat.le_of_ble_eq_true rfl) (Nat.le_trans (Nat.add_le_add_right (Nat.add_le_add_right (Nat.add_le_add_right (Nat.add_le_add_right (Nat.add_le_add_left h24 _) _) _) _) _) (Nat.le_of_ble_eq_true rfl)) hE5 jw9 (lv_sub hl [0, 1, 2] rfl) (fun v N H11 locs11 ls pc hr11 jw10 hdg => ?_)
  cases hr11
  refine va_forget (fun q hq => jw10.2.2.2.2 q hq) (j_wid (k := 600130) (n := 7301080) (Nat.le_of_ble_eq_true rfl) (Nat.le_trans (Nat.add_le_add_right (Nat.add_le_add_right (Nat.add_le_add_right (Nat.add_le_add_left h24 _) _) _) _) (Nat.le_of_ble_eq_true rfl)) ?_)
  exact lw_ret hx hb hr hlocks hdg

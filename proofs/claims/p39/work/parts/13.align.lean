def s_X0_pairs (Y : JY) (M : JM) (o : Nat) : Int32 := (M o 5)
set_option maxRecDepth 100000 in
set_option maxHeartbeats 4000000 in
theorem c_X0_pairs {D : va_G} {Y : JY} {ty : Nat → ClassId} {ad : Nat → Nat} {sz : Nat} {l : Launch} {M : JM} (hY : j_ok Y) {o : Nat} (ho : j_kd Y o = 0) {r : Int32} (hE : s_X0_pairs Y M o = r) : JMi D Y ty ad sz l yX0_pairs cX0_pairs 1 (some .int) 0 0 [.ref (ad o)] M r M := by
  refine j_ofI hY (by decide +kernel) (Nat.le_of_ble_eq_true rfl) (fun p e s m below meth c args R Q A hRf hRl hA jc jw kr ls hl => ?_)
  have hx := jc.1
  have hb := jc.2.1
  have hl : lv_has ls 1 [(0, .ref (ad o))] := hl
  unfold s_X0_pairs at hE
  obtain ⟨G0, eG0, hE⟩ := j_F0 hE
  refine lv_aload_n hx hb dX0_pairs_0 rfl (lv_at hl 0 rfl) ?_
  refine jg_0_5 jc jw ho wd_4_33 dX0_pairs_1 ?_
  exact kr _ _ _ _ _ _ (j_ret eG0 hE) rfl jw dX0_pairs_4
def s_X0_partnerOf (Y : JY) (M : JM) (o : Nat) (p1 : Int32) : Int32 := (s_X4_at Y M (j_rf Y o 0) p1)
set_option maxRecDepth 100000 in
set_option maxHeartbeats 4000000 in
theorem c_X0_partnerOf {D : va_G} {Y : JY} {ty : Nat → ClassId} {ad : Nat → Nat} {sz : Nat} {l : Launch} {M : JM} (hY : j_ok Y) {o : Nat} {p1 : Int32} (ho : j_kd Y o = 0) {r : Int32} (hE : s_X0_partnerOf Y M o p1 = r) : JMi D Y ty ad sz l yX0_partnerOf cX0_partnerOf 2 (some .int) 1 21 [.ref (ad o), .int p1] M r M := by
  refine j_ofI hY (by decide +kernel) (Nat.le_of_ble_eq_true rfl) (fun p e s m below meth c args R Q A hRf hRl hA jc jw kr ls hl => ?_)
  have hx := jc.1
  have hb := jc.2.1
  have hl : lv_has ls 2 [(0, .ref (ad o)), (1, .int p1)] := hl
  unfold s_X0_partnerOf at hE
  obtain ⟨G0, eG0, hE⟩ := j_F0 hE
  refine lv_aload_n hx hb dX0_partnerOf_0 rfl (lv_at hl 0 rfl) ?_
  refine jg_0_0 jc jw ho wd_4_28 dX0_partnerOf_1 ?_
  have k1 := j_sub hY ho 0 (f := 4) rfl (by decide) (by decide) (by decide)
  refine lv_iload_n hx hb dX0_partnerOf_4 rfl (lv_at hl 1 rfl) ?_
  refine jc_vi [.int p1] [] jc jw hA k1 (by decide) rfl (c_X4_at hY k1 (M := M) rfl) sd_X0_49 rfl hl.1 (j_hR hRf hRl rfl rfl) (Nat.le_of_ble_eq_true rfl) dX0_partnerOf_5 (fun H locs jw => ?_)
  exact kr _ _ _ _ _ _ (j_ret eG0 hE) rfl jw dX0_partnerOf_8
def s_X0_isFirstKept (Y : JY) (M : JM) (o : Nat) (p1 : Int32) : Int32 := if (s_X4_at Y M (j_rf Y o 0) p1) = (-1 : Int32) then ((0 : Int32)) else ((1 : Int32))
set_option maxRecDepth 100000 in
set_option maxHeartbeats 4000000 in
theorem c_X0_isFirstKept {D : va_G} {Y : JY} {ty : Nat → ClassId} {ad : Nat → Nat} {sz : Nat} {l : Launch} {M : JM} (hY : j_ok Y) {o : Nat} {p1 : Int32} (ho : j_kd Y o = 0) {r : Int32} (hE : s_X0_isFirstKept Y M o p1 = r) : JMz D Y ty ad sz l yX0_isFirstKept cX0_isFirstKept 2 1 21 [.ref (ad o), .int p1] M r M := by
  refine j_ofZ hY (by decide +kernel) (Nat.le_of_ble_eq_true rfl) (fun p e s m below meth c args R Q A hRf hRl hA jc jw kr ls hl => ?_)
  have hx := jc.1
  have hb := jc.2.1
  have hl : lv_has ls 2 [(0, .ref (ad o)), (1, .int p1)] := hl
  unfold s_X0_isFirstKept at hE
  obtain ⟨G0, eG0, hE⟩ := j_F0 hE
  refine lv_aload_n hx hb dX0_isFirstKept_0 rfl (lv_at hl 0 rfl) ?_
  refine jg_0_0 jc jw ho wd_4_28 dX0_isFirstKept_1 ?_
  have k1 := j_sub hY ho 0 (f := 4) rfl (by decide) (by decide) (by decide)
  refine lv_iload_n hx hb dX0_isFirstKept_4 rfl (lv_at hl 1 rfl) ?_
  refine jc_vi [.int p1] [] jc jw hA k1 (by decide) rfl (c_X4_at hY k1 (M := M) rfl) sd_X0_49 rfl hl.1 (j_hR hRf hRl rfl rfl) (Nat.le_of_ble_eq_true rfl) dX0_isFirstKept_5 (fun H locs jw => ?_)
  refine lv_iconst (v := -1) hx hb dX0_isFirstKept_8 (by decide) ?_
  refine lv_icmp_eq (tgt := 16) hx hb dX0_isFirstKept_9 (by decide) (fun c2 => ?_) (fun c2 => ?_)
  · rw [if_pos c2] at hE
    refine lv_iconst (v := 0) hx hb dX0_isFirstKept_16 (by decide) ?_
    exact kr _ _ _ _ _ _ (j_ret eG0 hE) rfl (by decide) jw dX0_isFirstKept_17
  · rw [if_neg c2] at hE
    refine lv_iconst (v := 1) hx hb dX0_isFirstKept_12 (by decide) ?_
    refine lv_goto (tgt := 17) hx hb dX0_isFirstKept_13 (by decide) ?_
    exact kr _ _ _ _ _ _ (j_ret eG0 hE) rfl (by decide) jw dX0_isFirstKept_17
def s_X0_isSecondKept (Y : JY) (M : JM) (o : Nat) (p1 : Int32) : Int32 := if (s_X4_at Y M (j_rf Y o 1) p1) = (-1 : Int32) then ((0 : Int32)) else ((1 : Int32))
set_option maxRecDepth 100000 in
set_option maxHeartbeats 4000000 in
theorem c_X0_isSecondKept {D : va_G} {Y : JY} {ty : Nat → ClassId} {ad : Nat → Nat} {sz : Nat} {l : Launch} {M : JM} (hY : j_ok Y) {o : Nat} {p1 : Int32} (ho : j_kd Y o = 0) {r : Int32} (hE : s_X0_isSecondKept Y M o p1 = r) : JMz D Y ty ad sz l yX0_isSecondKept cX0_isSecondKept 2 1 21 [.ref (ad o), .int p1] M r M := by
  refine j_ofZ hY (by decide +kernel) (Nat.le_of_ble_eq_true rfl) (fun p e s m below meth c args R Q A hRf hRl hA jc jw kr ls hl => ?_)
  have hx := jc.1
  have hb := jc.2.1
  have hl : lv_has ls 2 [(0, .ref (ad o)), (1, .int p1)] := hl
  unfold s_X0_isSecondKept at hE
  obtain ⟨G0, eG0, hE⟩ := j_F0 hE
  refine lv_aload_n hx hb dX0_isSecondKept_0 rfl (lv_at hl 0 rfl) ?_
  refine jg_0_1 jc jw ho wd_4_29 dX0_isSecondKept_1 ?_
  have k1 := j_sub hY ho 1 (f := 4) rfl (by decide) (by decide) (by decide)
  refine lv_iload_n hx hb dX0_isSecondKept_4 rfl (lv_at hl 1 rfl) ?_
  refine jc_vi [.int p1] [] jc jw hA k1 (by decide) rfl (c_X4_at hY k1 (M := M) rfl) sd_X0_49 rfl hl.1 (j_hR hRf hRl rfl rfl) (Nat.le_of_ble_eq_true rfl) dX0_isSecondKept_5 (fun H locs jw => ?_)
  refine lv_iconst (v := -1) hx hb dX0_isSecondKept_8 (by decide) ?_
  refine lv_icmp_eq (tgt := 16) hx hb dX0_isSecondKept_9 (by decide) (fun c2 => ?_) (fun c2 => ?_)
  · rw [if_pos c2] at hE
    refine lv_iconst (v := 0) hx hb dX0_isSecondKept_16 (by decide) ?_
    exact kr _ _ _ _ _ _ (j_ret eG0 hE) rfl (by decide) jw dX0_isSecondKept_17
  · rw [if_neg c2] at hE
    refine lv_iconst (v := 1) hx hb dX0_isSecondKept_12 (by decide) ?_
    refine lv_goto (tgt := 17) hx hb dX0_isSecondKept_13 (by decide) ?_
    exact kr _ _ _ _ _ _ (j_ret eG0 hE) rfl (by decide) jw dX0_isSecondKept_17
def lp_X0_findCandidates_1 (Y : JY) (q1 : Nat) (q2 : Nat) (o : Nat) (n : Nat) (vv4 : Int32) (mm5 : JM) : Option (JM) := match n with
  | 0 => none
  | n + 1 => if (s_X4_size Y mm5 q1) ≤ vv4 then (some mm5) else (lt_ (s_X4_at Y mm5 q1 vv4) fun vv7 => (s_X4_isOnce Y mm5 q1 vv7).bind fun xx8 => (if xx8 = 0 then (some (0 : Int32)) else ((s_X4_isOnce Y mm5 q2 vv7).bind fun xx12 => if xx12 = 0 then (some (0 : Int32)) else (some (1 : Int32)))).bind fun xx23 => (if xx23 = 0 then (some (-1 : Int32)) else ((s_X4_find Y mm5 q2 vv7 (0 : Int32) (s_X4_size Y mm5 q2)).bind fun xx18 => some xx18)).bind fun xx22 => lt_ (s_X4_push Y mm5 (j_rf Y o 2) xx22) fun xx20 => lt_ (vv4 + (1 : Int32)) fun vv21 => lp_X0_findCandidates_1 Y q1 q2 o n vv21 xx20)
def s_X0_findCandidates (Y : JY) (M : JM) (o : Nat) (q1 : Nat) (q2 : Nat) : Option (JM) := lt_ (s_X4_clear Y M (j_rf Y o 2)) fun xx2 => (lp_X0_findCandidates_1 Y q1 q2 o j_fuel (0 : Int32) xx2).bind fun xx24 => some xx24
set_option maxRecDepth 100000 in
set_option maxHeartbeats 4000000 in
theorem c_X0_findCandidates {D : va_G} {Y : JY} {ty : Nat → ClassId} {ad : Nat → Nat} {sz : Nat} {l : Launch} {M : JM} (hY : j_ok Y) {o : Nat} {q1 : Nat} {q2 : Nat} (ho : j_kd Y o = 0) (hq1 : j_kd Y q1 = 4) (hq2 : j_kd Y q2 = 4) {r : JM} (hE : s_X0_findCandidates Y M o q1 q2 = some r) : JMv D Y ty ad sz l yX0_findCandidates cX0_findCandidates 6 2 45 [.ref (ad o), .ref (ad q1), .ref (ad q2)] M r := by
  refine j_ofV hY (by decide +kernel) (Nat.le_of_ble_eq_true rfl) (fun p e s m below meth c args R Q A hRf hRl hA jc jw kr ls hl => ?_)
  have hx := jc.1
  have hb := jc.2.1
  have hl : lv_has ls 6 [(0, .ref (ad o)), (1, .ref (ad q1)), (2, .ref (ad q2))] := hl
  unfold s_X0_findCandidates at hE
  obtain ⟨G0, eG0, hG0, hE⟩ := j_F0o hE
  refine lv_aload_n hx hb dX0_findCandidates_0 rfl (lv_at hl 0 rfl) ?_
  refine jg_0_2 jc jw ho wd_4_30 dX0_findCandidates_1 ?_
  have k1 := j_sub hY ho 2 (f := 4) rfl (by decide) (by decide) (by decide)
  obtain ⟨xx2, exx2, hE⟩ := j_lv hE
  try dsimp only at hE
  refine jc_vv [] [] jc jw hA k1 (by decide) rfl (c_X4_clear hY k1 (M := M) exx2.symm) sd_X0_97 rfl hl.1 (j_hR hRf hRl rfl rfl) (Nat.le_of_ble_eq_true rfl) dX0_findCandidates_4 (fun H locs jw => ?_)
  refine lv_iconst (v := 0) hx hb dX0_findCandidates_7 (by decide) ?_
  refine lv_istore_n (lv' := [(3, .int (0 : Int32)), (0, .ref (ad o)), (1, .ref (ad q1)), (2, .ref (ad q2))]) hx hb dX0_findCandidates_8 rfl hl (by decide) rfl (fun ls hl => ?_)
  obtain ⟨G3, eG3, hG3, hE⟩ := j_ctxB hG0 hE
  have LP3 : ∀ (n : Nat) (vv4 : Int32) (mm5 : JM) (H : Heap) (locs : List Loc) (ls : Array Slot), G3 (lp_X0_findCandidates_1 Y q1 q2 o n vv4 mm5) = some r → JW D Y ty ad A s.heap mm5 H locs → lv_has ls 6 [(3, .int vv4), (0, .ref (ad o)), (1, .ref (ad q1)), (2, .ref (ad q2))] → W p l e R s m args below meth c H locs 0 0 Q (F0 m 9 ls []) := by
    intro n
    induction n with
    | zero => intro vv4 mm5 H locs ls hE jw hl; exact absurd hE (hG3 _)
    | succ n ih =>
      intro vv4 mm5 H locs ls hE jw hl
      rw [lp_X0_findCandidates_1] at hE
      refine lv_iload_n hx hb dX0_findCandidates_9 rfl (lv_at hl 0 rfl) ?_
      refine lv_aload_n hx hb dX0_findCandidates_10 rfl (lv_at hl 2 rfl) ?_
      refine jc_vi [] [.int vv4] jc jw hA hq1 (by decide) rfl (c_X4_size hY hq1 (M := mm5) rfl) sd_X0_53 rfl hl.1 (j_hR hRf hRl rfl rfl) (Nat.le_of_ble_eq_true rfl) dX0_findCandidates_11 (fun H locs jw => ?_)
      refine lv_icmp_ge (tgt := 82) hx hb dX0_findCandidates_14 (by decide) (fun c6 => ?_) (fun c6 => ?_)
      · rw [if_pos c6] at hE
        replace hE := j_popB eG3 hE
        try dsimp only at hE
        exact kr _ _ _ _ _ (Option.some.inj (j_ret eG0 hE)) jw dX0_findCandidates_82
      · rw [if_neg c6] at hE
        refine lv_aload_n hx hb dX0_findCandidates_17 rfl (lv_at hl 2 rfl) ?_
        refine lv_iload_n hx hb dX0_findCandidates_18 rfl (lv_at hl 0 rfl) ?_
        refine jc_vi [.int vv4] [] jc jw hA hq1 (by decide) rfl (c_X4_at hY hq1 (M := mm5) rfl) sd_X0_49 rfl hl.1 (j_hR hRf hRl rfl rfl) (Nat.le_of_ble_eq_true rfl) dX0_findCandidates_19 (fun H locs jw => ?_)
        refine lv_topi (fun vv7 evv7 => ?_)
        replace hE := j_lu hE evv7
        try dsimp only at hE
        refine lv_istore (lv' := [(4, .int vv7), (3, .int vv4), (0, .ref (ad o)), (1, .ref (ad q1)), (2, .ref (ad q2))]) hx hb dX0_findCandidates_22 hl (by decide) rfl (fun ls hl => ?_)
        refine lv_aload_n hx hb dX0_findCandidates_24 rfl (lv_at hl 3 rfl) ?_
        refine lv_iload hx hb dX0_findCandidates_25 (lv_at hl 0 rfl) ?_
        obtain ⟨xx8, exx8, hE⟩ := j_bd hG3 hE
        try dsimp only at hE
        refine jc_vz [.int vv7] [] jc jw hA hq1 (by decide) rfl (c_X4_isOnce hY hq1 (M := mm5) exx8) sd_X0_100 rfl hl.1 (j_hR hRf hRl rfl rfl) (Nat.le_of_ble_eq_true rfl) dX0_findCandidates_27 (fun H locs jw hz => ?_)
        have z_9 := hz
        obtain ⟨G11, eG11, hG11, hE⟩ := j_ctxB hG3 hE
        have J11 : ∀ (vv15 : Int32)  (H : Heap) (locs : List Loc) (ls : Array Slot), G11 (some vv15) = some r → JW D Y ty ad A s.heap mm5 H locs → lv_has ls 6 [(4, .int vv7), (3, .int vv4), (0, .ref (ad o)), (1, .ref (ad q1)), (2, .ref (ad q2))] → W p l e R s m args below meth c H locs 0 0 Q (F0 m 47 ls [.int vv15]) := by
          intro vv15  H locs ls hE jw hl
          replace hE := j_popB eG11 hE
          try dsimp only at hE
          refine lv_istore (lv' := [(5, .int vv15), (4, .int vv7), (3, .int vv4), (0, .ref (ad o)), (1, .ref (ad q1)), (2, .ref (ad q2))]) hx hb dX0_findCandidates_47 hl (by decide) rfl (fun ls hl => ?_)
          refine lv_aload_n hx hb dX0_findCandidates_49 rfl (lv_at hl 3 rfl) ?_
          refine jg_0_2 jc jw ho wd_4_30 dX0_findCandidates_50 ?_
          refine lv_iload hx hb dX0_findCandidates_53 (lv_at hl 0 rfl) ?_
          obtain ⟨G17, eG17, hG17, hE⟩ := j_ctxB hG3 hE
          have J17 : ∀ (vv19 : Int32)  (H : Heap) (locs : List Loc) (ls : Array Slot), G17 (some vv19) = some r → JW D Y ty ad A s.heap mm5 H locs → lv_has ls 6 [(3, .int vv4), (0, .ref (ad o)), (1, .ref (ad q1)), (2, .ref (ad q2))] → W p l e R s m args below meth c H locs 0 0 Q (F0 m 73 ls [.int vv19, .ref (ad (j_rf Y o 2))]) := by
            intro vv19  H locs ls hE jw hl
            replace hE := j_popB eG17 hE
            try dsimp only at hE
            obtain ⟨xx20, exx20, hE⟩ := j_lv hE
            try dsimp only at hE
            refine jc_vv [.int vv19] [] jc jw hA k1 (by decide) rfl (c_X4_push hY k1 (M := mm5) exx20.symm) sd_X0_104 rfl hl.1 (j_hR hRf hRl rfl rfl) (Nat.le_of_ble_eq_true rfl) dX0_findCandidates_73 (fun H locs jw => ?_)
            obtain ⟨vv21, evv21, hE⟩ := j_lv hE
            try dsimp only at hE
            refine lv_iinc (v := vv21) (lv' := [(3, .int vv21), (0, .ref (ad o)), (1, .ref (ad q1)), (2, .ref (ad q2))]) hx hb dX0_findCandidates_76 hl (k := 0) rfl (by rw [evv21]; rfl) (by decide) rfl (fun ls hl => ?_)
            refine lv_goto (tgt := 9) hx hb dX0_findCandidates_79 (by decide) ?_
            exact ih vv21 xx20 H locs ls hE jw (lv_sub hl [0, 1, 2, 3] rfl)
          refine lv_if_eq (tgt := 72) hx hb dX0_findCandidates_55 (by decide) (fun c16 => ?_) (fun c16 => ?_)
          · rw [if_pos c16] at hE
            refine lv_iconst (v := -1) hx hb dX0_findCandidates_72 (by decide) ?_
            exact J17 (-1 : Int32)  H locs ls hE jw (lv_sub hl [2, 3, 4, 5] rfl)
          · rw [if_neg c16] at hE
            refine lv_aload_n hx hb dX0_findCandidates_58 rfl (lv_at hl 5 rfl) ?_
            refine lv_iload hx hb dX0_findCandidates_59 (lv_at hl 1 rfl) ?_
            refine lv_iconst (v := 0) hx hb dX0_findCandidates_61 (by decide) ?_
            refine lv_aload_n hx hb dX0_findCandidates_62 rfl (lv_at hl 5 rfl) ?_
            refine jc_vi [] [.int (0 : Int32), .int vv7, .ref (ad q2), .ref (ad (j_rf Y o 2))] jc jw hA hq2 (by decide) rfl (c_X4_size hY hq2 (M := mm5) rfl) sd_X0_53 rfl hl.1 (j_hR hRf hRl rfl rfl) (Nat.le_of_ble_eq_true rfl) dX0_findCandidates_63 (fun H locs jw => ?_)
            obtain ⟨xx18, exx18, hE⟩ := j_bd hG17 hE
            try dsimp only at hE
            refine jc_vi [.int vv7, .int (0 : Int32), .int (s_X4_size Y mm5 q2)] [.ref (ad (j_rf Y o 2))] jc jw hA hq2 (by decide) rfl (c_X4_find hY hq2 (M := mm5) exx18) sd_X0_73 rfl hl.1 (j_hR hRf hRl rfl rfl) (Nat.le_of_ble_eq_true rfl) dX0_findCandidates_66 (fun H locs jw => ?_)
            refine lv_goto (tgt := 73) hx hb dX0_findCandidates_69 (by decide) ?_
            exact J17 xx18  H locs ls hE jw (lv_sub hl [2, 3, 4, 5] rfl)
        refine lv_if_eq (tgt := 46) hx hb dX0_findCandidates_30 (by decide) (fun c10 => ?_) (fun c10 => ?_)
        · rw [if_pos c10] at hE
          refine lv_iconst (v := 0) hx hb dX0_findCandidates_46 (by decide) ?_
          exact J11 (0 : Int32)  H locs ls hE jw (lv_sub hl [0, 1, 2, 3, 4] rfl)
        · rw [if_neg c10] at hE
          refine lv_aload_n hx hb dX0_findCandidates_33 rfl (lv_at hl 4 rfl) ?_
          refine lv_iload hx hb dX0_findCandidates_34 (lv_at hl 0 rfl) ?_
          obtain ⟨xx12, exx12, hE⟩ := j_bd hG11 hE
          try dsimp only at hE
          refine jc_vz [.int vv7] [] jc jw hA hq2 (by decide) rfl (c_X4_isOnce hY hq2 (M := mm5) exx12) sd_X0_100 rfl hl.1 (j_hR hRf hRl rfl rfl) (Nat.le_of_ble_eq_true rfl) dX0_findCandidates_36 (fun H locs jw hz => ?_)
          have z_13 := hz
          refine lv_if_eq (tgt := 46) hx hb dX0_findCandidates_39 (by decide) (fun c14 => ?_) (fun c14 => ?_)
          · rw [if_pos c14] at hE
            refine lv_iconst (v := 0) hx hb dX0_findCandidates_46 (by decide) ?_
            exact J11 (0 : Int32)  H locs ls hE jw (lv_sub hl [0, 1, 2, 3, 4] rfl)
          · rw [if_neg c14] at hE
            refine lv_iconst (v := 1) hx hb dX0_findCandidates_42 (by decide) ?_
            refine lv_goto (tgt := 47) hx hb dX0_findCandidates_43 (by decide) ?_
            exact J11 (1 : Int32)  H locs ls hE jw (lv_sub hl [0, 1, 2, 3, 4] rfl)
  exact LP3 j_fuel (0 : Int32) xx2 H locs ls hE jw (lv_sub hl [0, 1, 2, 3] rfl)
def lp_X0_measureChains_2 (Y : JY) (mm8 : JM) (o : Nat) (vv7 : Int32) (n : Nat) (vv12 : Int32) (vv13 : Int32) : Option (Int32) := match n with
  | 0 => none
  | n + 1 => if (s_X4_size Y mm8 (j_rf Y o 2)) ≤ vv13 then (some vv12) else (lt_ (if (s_X4_at Y mm8 (j_rf Y o 2) vv13) ≤ (s_X4_at Y mm8 (j_rf Y o 2) vv7) then (vv12) else (lt_ (if vv12 < (s_X4_at Y mm8 (j_rf Y o 3) vv13) then (s_X4_at Y mm8 (j_rf Y o 3) vv13) else vv12) fun vv17 => vv17)) fun xx20 => lt_ (vv13 + (1 : Int32)) fun vv19 => lp_X0_measureChains_2 Y mm8 o vv7 n xx20 vv19)
def lp_X0_measureChains_1 (Y : JY) (o : Nat) (n : Nat) (vv6 : Int32) (vv7 : Int32) (mm8 : JM) : Option (Int32 × JM) := match n with
  | 0 => none
  | n + 1 => if vv7 < 0 then (some (vv6, mm8)) else (lt_ (vv7 + (1 : Int32)) fun vv10 => (lp_X0_measureChains_2 Y mm8 o vv7 j_fuel (0 : Int32) vv10).bind fun xx30 => lt_ (if (s_X4_at Y mm8 (j_rf Y o 2) vv7) = (-1 : Int32) then ((vv6, mm8)) else (lt_ (s_X4_put Y mm8 (j_rf Y o 3) vv7 (xx30 + (1 : Int32))) fun xx24 => lt_ (if vv6 < (xx30 + (1 : Int32)) then (xx30 + (1 : Int32)) else vv6) fun vv25 => (vv25, xx24))) fun xx29 => lt_ (vv7 + (-1 : Int32)) fun vv28 => lp_X0_measureChains_1 Y o n xx29.1 vv28 xx29.2)
def s_X0_measureChains (Y : JY) (M : JM) (o : Nat) : Option (Int32 × JM) := (s_X4_fillWith Y M (j_rf Y o 3) (0 : Int32) (s_X4_size Y M (j_rf Y o 2))).bind fun xx3 => lt_ ((s_X4_size Y xx3 (j_rf Y o 2)) - (1 : Int32)) fun vv4 => (lp_X0_measureChains_1 Y o j_fuel (0 : Int32) vv4 xx3).bind fun xx31 => some (xx31.1, xx31.2)
set_option maxRecDepth 100000 in
set_option maxHeartbeats 4000000 in
theorem c_X0_measureChains {D : va_G} {Y : JY} {ty : Nat → ClassId} {ad : Nat → Nat} {sz : Nat} {l : Launch} {M : JM} (hY : j_ok Y) {o : Nat} (ho : j_kd Y o = 0) {r : Int32 × JM} (hE : s_X0_measureChains Y M o = some r) : JMi D Y ty ad sz l yX0_measureChains cX0_measureChains 5 (some .int) 2 44 [.ref (ad o)] M r.1 r.2 := by
  refine j_ofI hY (by decide +kernel) (Nat.le_of_ble_eq_true rfl) (fun p e s m below meth c args R Q A hRf hRl hA jc jw kr ls hl => ?_)
  have hx := jc.1
  have hb := jc.2.1
  have hl : lv_has ls 5 [(0, .ref (ad o))] := hl
  unfold s_X0_measureChains at hE
  obtain ⟨G0, eG0, hG0, hE⟩ := j_F0o hE
  refine lv_iconst (v := 0) hx hb dX0_measureChains_0 (by decide) ?_
  refine lv_istore_n (lv' := [(1, .int (0 : Int32)), (0, .ref (ad o))]) hx hb dX0_measureChains_1 rfl hl (by decide) rfl (fun ls hl => ?_)
  refine lv_aload_n hx hb dX0_measureChains_2 rfl (lv_at hl 1 rfl) ?_
  refine jg_0_3 jc jw ho wd_4_31 dX0_measureChains_3 ?_
  have k1 := j_sub hY ho 3 (f := 4) rfl (by decide) (by decide) (by decide)
  refine lv_iconst (v := 0) hx hb dX0_measureChains_6 (by decide) ?_
  refine lv_aload_n hx hb dX0_measureChains_7 rfl (lv_at hl 1 rfl) ?_
  refine jg_0_2 jc jw ho wd_4_30 dX0_measureChains_8 ?_
  have k2 := j_sub hY ho 2 (f := 4) rfl (by decide) (by decide) (by decide)
  refine jc_vi [] [.int (0 : Int32), .ref (ad (j_rf Y o 3))] jc jw hA k2 (by decide) rfl (c_X4_size hY k2 (M := M) rfl) sd_X0_53 rfl hl.1 (j_hR hRf hRl rfl rfl) (Nat.le_of_ble_eq_true rfl) dX0_measureChains_11 (fun H locs jw => ?_)
  obtain ⟨xx3, exx3, hE⟩ := j_bd hG0 hE
  try dsimp only at hE
  refine jc_vv [.int (0 : Int32), .int (s_X4_size Y M (j_rf Y o 2))] [] jc jw hA k1 (by decide) rfl (c_X4_fillWith hY k1 (M := M) exx3) sd_X0_56 rfl hl.1 (j_hR hRf hRl rfl rfl) (Nat.le_of_ble_eq_true rfl) dX0_measureChains_14 (fun H locs jw => ?_)
  refine lv_aload_n hx hb dX0_measureChains_17 rfl (lv_at hl 1 rfl) ?_
  refine jg_0_2 jc jw ho wd_4_30 dX0_measureChains_18 ?_
  refine jc_vi [] [] jc jw hA k2 (by decide) rfl (c_X4_size hY k2 (M := xx3) rfl) sd_X0_53 rfl hl.1 (j_hR hRf hRl rfl rfl) (Nat.le_of_ble_eq_true rfl) dX0_measureChains_21 (fun H locs jw => ?_)
  refine lv_iconst (v := 1) hx hb dX0_measureChains_24 (by decide) ?_
  refine lv_isub hx hb dX0_measureChains_25 ?_
  refine lv_topi (fun vv4 evv4 => ?_)
  replace hE := j_lu hE evv4
  try dsimp only at hE
  refine lv_istore_n (lv' := [(2, .int vv4), (1, .int (0 : Int32)), (0, .ref (ad o))]) hx hb dX0_measureChains_26 rfl hl (by decide) rfl (fun ls hl => ?_)
  obtain ⟨G5, eG5, hG5, hE⟩ := j_ctxB hG0 hE
  have LP5 : ∀ (n : Nat) (vv6 : Int32) (vv7 : Int32) (mm8 : JM) (H : Heap) (locs : List Loc) (ls : Array Slot), G5 (lp_X0_measureChains_1 Y o n vv6 vv7 mm8) = some r → JW D Y ty ad A s.heap mm8 H locs → lv_has ls 5 [(2, .int vv7), (1, .int vv6), (0, .ref (ad o))] → W p l e R s m args below meth c H locs 0 0 Q (F0 m 27 ls []) := by
    intro n
    induction n with
    | zero => intro vv6 vv7 mm8 H locs ls hE jw hl; exact absurd hE (hG5 _)
    | succ n ih =>
      intro vv6 vv7 mm8 H locs ls hE jw hl
      rw [lp_X0_measureChains_1] at hE
      refine lv_iload_n hx hb dX0_measureChains_27 rfl (lv_at hl 0 rfl) ?_
      refine lv_if_lt (tgt := 127) hx hb dX0_measureChains_28 (by decide) (fun c9 => ?_) (fun c9 => ?_)
      · rw [if_pos c9] at hE
        refine lv_iload_n hx hb dX0_measureChains_127 rfl (lv_at hl 1 rfl) ?_
        replace hE := j_popB eG5 hE
        try dsimp only at hE
        exact kr _ _ _ _ _ _ (j_fst (Option.some.inj (j_ret eG0 hE))) (j_snd (Option.some.inj (j_ret eG0 hE))) jw dX0_measureChains_128
      · rw [if_neg c9] at hE
        refine lv_iconst (v := 0) hx hb dX0_measureChains_31 (by decide) ?_
        refine lv_istore_n (lv' := [(3, .int (0 : Int32)), (2, .int vv7), (1, .int vv6), (0, .ref (ad o))]) hx hb dX0_measureChains_32 rfl hl (by decide) rfl (fun ls hl => ?_)
        refine lv_iload_n hx hb dX0_measureChains_33 rfl (lv_at hl 1 rfl) ?_
        refine lv_iconst (v := 1) hx hb dX0_measureChains_34 (by decide) ?_
        refine lv_iadd hx hb dX0_measureChains_35 ?_
        refine lv_topi (fun vv10 evv10 => ?_)
        replace hE := j_lu hE evv10
        try dsimp only at hE
        refine lv_istore (lv' := [(4, .int vv10), (3, .int (0 : Int32)), (2, .int vv7), (1, .int vv6), (0, .ref (ad o))]) hx hb dX0_measureChains_36 hl (by decide) rfl (fun ls hl => ?_)
        obtain ⟨G11, eG11, hG11, hE⟩ := j_ctxB hG5 hE
        have E11_90 : ∀ (vv21 : Int32)  (H : Heap) (locs : List Loc) (ls : Array Slot), G11 (some vv21) = some r → JW D Y ty ad A s.heap mm8 H locs → lv_has ls 5 [(3, .int vv21), (2, .int vv7), (1, .int vv6), (0, .ref (ad o))] → W p l e R s m args below meth c H locs 0 0 Q (F0 m 90 ls []) := by
          intro vv21  H locs ls hE jw hl
          replace hE := j_popB eG11 hE
          try dsimp only at hE
          refine lv_aload_n hx hb dX0_measureChains_90 rfl (lv_at hl 3 rfl) ?_
          refine jg_0_2 jc jw ho wd_4_30 dX0_measureChains_91 ?_
          refine lv_iload_n hx hb dX0_measureChains_94 rfl (lv_at hl 1 rfl) ?_
          refine jc_vi [.int vv7] [] jc jw hA k2 (by decide) rfl (c_X4_at hY k2 (M := mm8) rfl) sd_X0_49 rfl hl.1 (j_hR hRf hRl rfl rfl) (Nat.le_of_ble_eq_true rfl) dX0_measureChains_95 (fun H locs jw => ?_)
          refine lv_iconst (v := -1) hx hb dX0_measureChains_98 (by decide) ?_
          obtain ⟨G23, eG23, hE⟩ := j_ctxL hE
          have J23 : ∀ (vv26 : Int32) (mm27 : JM)  (H : Heap) (locs : List Loc) (ls : Array Slot), G23 ((vv26, mm27)) = some r → JW D Y ty ad A s.heap mm27 H locs → lv_has ls 5 [(2, .int vv7), (1, .int vv26), (0, .ref (ad o))] → W p l e R s m args below meth c H locs 0 0 Q (F0 m 121 ls []) := by
            intro vv26 mm27  H locs ls hE jw hl
            replace hE := j_popL eG23 hE
            try dsimp only at hE
            obtain ⟨vv28, evv28, hE⟩ := j_lv hE
            try dsimp only at hE
            refine lv_iinc (v := vv28) (lv' := [(2, .int vv28), (1, .int vv26), (0, .ref (ad o))]) hx hb dX0_measureChains_121 hl (k := 0) rfl (by rw [evv28]; rfl) (by decide) rfl (fun ls hl => ?_)
            refine lv_goto (tgt := 27) hx hb dX0_measureChains_124 (by decide) ?_
            exact ih vv26 vv28 mm27 H locs ls hE jw (lv_sub hl [0, 1, 2] rfl)
          refine lv_icmp_eq (tgt := 121) hx hb dX0_measureChains_99 (by decide) (fun c22 => ?_) (fun c22 => ?_)
          · rw [if_pos c22] at hE
            exact J23 vv6 mm8  H locs ls hE jw (lv_sub hl [1, 2, 3] rfl)
          · rw [if_neg c22] at hE
            refine lv_aload_n hx hb dX0_measureChains_102 rfl (lv_at hl 3 rfl) ?_
            refine jg_0_3 jc jw ho wd_4_31 dX0_measureChains_103 ?_
            refine lv_iload_n hx hb dX0_measureChains_106 rfl (lv_at hl 1 rfl) ?_
            refine lv_iload_n hx hb dX0_measureChains_107 rfl (lv_at hl 0 rfl) ?_
            refine lv_iconst (v := 1) hx hb dX0_measureChains_108 (by decide) ?_
            refine lv_iadd hx hb dX0_measureChains_109 ?_
            obtain ⟨xx24, exx24, hE⟩ := j_lv hE
            try dsimp only at hE
            refine jc_vv [.int vv7, .int (vv21 + (1 : Int32))] [] jc jw hA k1 (by decide) rfl (c_X4_put hY k1 (M := mm8) exx24.symm) sd_X0_67 rfl hl.1 (j_hR hRf hRl rfl rfl) (Nat.le_of_ble_eq_true rfl) dX0_measureChains_110 (fun H locs jw => ?_)
            refine lv_iload_n hx hb dX0_measureChains_113 rfl (lv_at hl 2 rfl) ?_
            refine lv_iload_n hx hb dX0_measureChains_114 rfl (lv_at hl 0 rfl) ?_
            refine lv_iconst (v := 1) hx hb dX0_measureChains_115 (by decide) ?_
            refine lv_iadd hx hb dX0_measureChains_116 ?_
            refine va_mmax hx hb (jc.2.2.1.trans hl.1.symm) jc.2.2.2.1 (jc.2.2.2.2.1 _ wd_2_50) (jc.2.2.2.2.1 _ wd_2_51) (jc.2.2.2.2.1 _ wd_1_17) (jc.2.2.2.2.1 _ wd_2_52) (j_fr1 hRf rfl) (j_lo1 hRl rfl rfl) (Nat.zero_le _) (Nat.zero_le _) dX0_measureChains_117 ?_
            refine lv_topi (fun vv25 evv25 => ?_)
            replace hE := j_lu hE evv25
            try dsimp only at hE
            refine lv_istore_n (lv' := [(1, .int vv25), (3, .int vv21), (2, .int vv7), (0, .ref (ad o))]) hx hb dX0_measureChains_120 rfl hl (by decide) rfl (fun ls hl => ?_)
            exact J23 vv25 xx24  H locs ls hE jw (lv_sub hl [2, 0, 3] rfl)
        have LP11 : ∀ (n : Nat) (vv12 : Int32) (vv13 : Int32) (H : Heap) (locs : List Loc) (ls : Array Slot), G11 (lp_X0_measureChains_2 Y mm8 o vv7 n vv12 vv13) = some r → JW D Y ty ad A s.heap mm8 H locs → lv_has ls 5 [(4, .int vv13), (3, .int vv12), (2, .int vv7), (1, .int vv6), (0, .ref (ad o))] → W p l e R s m args below meth c H locs 0 0 Q (F0 m 38 ls []) := by
          intro n
          induction n with
          | zero => intro vv12 vv13 H locs ls hE jw hl; exact absurd hE (hG11 _)
          | succ n ih =>
            intro vv12 vv13 H locs ls hE jw hl
            rw [lp_X0_measureChains_2] at hE
            refine lv_iload hx hb dX0_measureChains_38 (lv_at hl 0 rfl) ?_
            refine lv_aload_n hx hb dX0_measureChains_40 rfl (lv_at hl 4 rfl) ?_
            refine jg_0_2 jc jw ho wd_4_30 dX0_measureChains_41 ?_
            refine jc_vi [] [.int vv13] jc jw hA k2 (by decide) rfl (c_X4_size hY k2 (M := mm8) rfl) sd_X0_53 rfl hl.1 (j_hR hRf hRl rfl rfl) (Nat.le_of_ble_eq_true rfl) dX0_measureChains_44 (fun H locs jw => ?_)
            refine lv_icmp_ge (tgt := 90) hx hb dX0_measureChains_47 (by decide) (fun c14 => ?_) (fun c14 => ?_)
            · rw [if_pos c14] at hE
              exact E11_90 vv12  H locs ls hE jw (lv_sub hl [1, 2, 3, 4] rfl)
            · rw [if_neg c14] at hE
              refine lv_aload_n hx hb dX0_measureChains_50 rfl (lv_at hl 4 rfl) ?_
              refine jg_0_2 jc jw ho wd_4_30 dX0_measureChains_51 ?_
              refine lv_iload hx hb dX0_measureChains_54 (lv_at hl 0 rfl) ?_
              refine jc_vi [.int vv13] [] jc jw hA k2 (by decide) rfl (c_X4_at hY k2 (M := mm8) rfl) sd_X0_49 rfl hl.1 (j_hR hRf hRl rfl rfl) (Nat.le_of_ble_eq_true rfl) dX0_measureChains_56 (fun H locs jw => ?_)
              refine lv_aload_n hx hb dX0_measureChains_59 rfl (lv_at hl 4 rfl) ?_
              refine jg_0_2 jc jw ho wd_4_30 dX0_measureChains_60 ?_
              refine lv_iload_n hx hb dX0_measureChains_63 rfl (lv_at hl 2 rfl) ?_
              refine jc_vi [.int vv7] [.int (s_X4_at Y mm8 (j_rf Y o 2) vv13)] jc jw hA k2 (by decide) rfl (c_X4_at hY k2 (M := mm8) rfl) sd_X0_49 rfl hl.1 (j_hR hRf hRl rfl rfl) (Nat.le_of_ble_eq_true rfl) dX0_measureChains_64 (fun H locs jw => ?_)
              obtain ⟨G16, eG16, hE⟩ := j_ctxL hE
              have J16 : ∀ (vv18 : Int32)  (H : Heap) (locs : List Loc) (ls : Array Slot), G16 (vv18) = some r → JW D Y ty ad A s.heap mm8 H locs → lv_has ls 5 [(4, .int vv13), (3, .int vv18), (2, .int vv7), (1, .int vv6), (0, .ref (ad o))] → W p l e R s m args below meth c H locs 0 0 Q (F0 m 84 ls []) := by
                intro vv18  H locs ls hE jw hl
                replace hE := j_popL eG16 hE
                try dsimp only at hE
                obtain ⟨vv19, evv19, hE⟩ := j_lv hE
                try dsimp only at hE
                refine lv_iinc (v := vv19) (lv' := [(4, .int vv19), (3, .int vv18), (2, .int vv7), (1, .int vv6), (0, .ref (ad o))]) hx hb dX0_measureChains_84 hl (k := 0) rfl (by rw [evv19]; rfl) (by decide) rfl (fun ls hl => ?_)
                refine lv_goto (tgt := 38) hx hb dX0_measureChains_87 (by decide) ?_
                exact ih vv18 vv19 H locs ls hE jw (lv_sub hl [0, 1, 2, 3, 4] rfl)
              refine lv_icmp_le (tgt := 84) hx hb dX0_measureChains_67 (by decide) (fun c15 => ?_) (fun c15 => ?_)
              · rw [if_pos c15] at hE
                exact J16 vv12  H locs ls hE jw (lv_sub hl [0, 1, 2, 3, 4] rfl)
              · rw [if_neg c15] at hE
                refine lv_iload_n hx hb dX0_measureChains_70 rfl (lv_at hl 1 rfl) ?_
                refine lv_aload_n hx hb dX0_measureChains_71 rfl (lv_at hl 4 rfl) ?_
                refine jg_0_3 jc jw ho wd_4_31 dX0_measureChains_72 ?_
                refine lv_iload hx hb dX0_measureChains_75 (lv_at hl 0 rfl) ?_
                refine jc_vi [.int vv13] [.int vv12] jc jw hA k1 (by decide) rfl (c_X4_at hY k1 (M := mm8) rfl) sd_X0_49 rfl hl.1 (j_hR hRf hRl rfl rfl) (Nat.le_of_ble_eq_true rfl) dX0_measureChains_77 (fun H locs jw => ?_)
                refine va_mmax hx hb (jc.2.2.1.trans hl.1.symm) jc.2.2.2.1 (jc.2.2.2.2.1 _ wd_2_50) (jc.2.2.2.2.1 _ wd_2_51) (jc.2.2.2.2.1 _ wd_1_17) (jc.2.2.2.2.1 _ wd_2_52) (j_fr1 hRf rfl) (j_lo1 hRl rfl rfl) (Nat.zero_le _) (Nat.zero_le _) dX0_measureChains_80 ?_
                refine lv_topi (fun vv17 evv17 => ?_)
                replace hE := j_lu hE evv17
                try dsimp only at hE
                refine lv_istore_n (lv' := [(3, .int vv17), (4, .int vv13), (2, .int vv7), (1, .int vv6), (0, .ref (ad o))]) hx hb dX0_measureChains_83 rfl hl (by decide) rfl (fun ls hl => ?_)
                exact J16 vv17  H locs ls hE jw (lv_sub hl [1, 0, 2, 3, 4] rfl)
        exact LP11 j_fuel (0 : Int32) vv10 H locs ls hE jw (lv_sub hl [0, 1, 2, 3, 4] rfl)
  exact LP5 j_fuel (0 : Int32) vv4 xx3 H locs ls hE jw (lv_sub hl [0, 1, 2] rfl)
def lp_X0_measureEnds_2 (Y : JY) (p5 : Int32) (p3 : Int32) (vv2 : Int32) (p6 : Int32) (q1 : Nat) (q4 : Nat) (o : Nat) (n : Nat) (vv6 : Int32) (mm7 : JM) : Option (JM) := match n with
  | 0 => none
  | n + 1 => if vv6 < p5 then (some mm7) else (lt_ (if p3 ≤ vv2 ∨ p6 ≤ vv6 then ((0 : Int32)) else (lt_ (if (s_X4_at Y mm7 q1 vv2) = (s_X4_at Y mm7 q4 vv6) then (((s_X8_at Y mm7 (j_rf Y o 4) (vv2 + (1 : Int32)) (vv6 + (1 : Int32))) + (1 : Int32))) else ((if (s_X8_at Y mm7 (j_rf Y o 4) (vv2 + (1 : Int32)) vv6) < (s_X8_at Y mm7 (j_rf Y o 4) vv2 (vv6 + (1 : Int32))) then (s_X8_at Y mm7 (j_rf Y o 4) vv2 (vv6 + (1 : Int32))) else (s_X8_at Y mm7 (j_rf Y o 4) (vv2 + (1 : Int32)) vv6)))) fun xx17 => xx17)) fun xx23 => lt_ (s_X8_put Y mm7 (j_rf Y o 4) vv2 vv6 xx23) fun xx21 => lt_ (vv6 + (-1 : Int32)) fun vv22 => lp_X0_measureEnds_2 Y p5 p3 vv2 p6 q1 q4 o n vv22 xx21)
def lp_X0_measureEnds_1 (Y : JY) (p2 : Int32) (p5 : Int32) (p3 : Int32) (p6 : Int32) (q1 : Nat) (q4 : Nat) (o : Nat) (n : Nat) (vv2 : Int32) (mm3 : JM) : Option (JM) := match n with
  | 0 => none
  | n + 1 => if vv2 < p2 then (some mm3) else ((lp_X0_measureEnds_2 Y p5 p3 vv2 p6 q1 q4 o j_fuel p6 mm3).bind fun xx26 => lt_ (vv2 + (-1 : Int32)) fun vv25 => lp_X0_measureEnds_1 Y p2 p5 p3 p6 q1 q4 o n vv25 xx26)
def s_X0_measureEnds (Y : JY) (M : JM) (o : Nat) (q1 : Nat) (p2 : Int32) (p3 : Int32) (q4 : Nat) (p5 : Int32) (p6 : Int32) : Option (JM) := (lp_X0_measureEnds_1 Y p2 p5 p3 p6 q1 q4 o j_fuel p3 M).bind fun xx27 => some xx27
set_option maxRecDepth 100000 in
set_option maxHeartbeats 4000000 in
theorem c_X0_measureEnds {D : va_G} {Y : JY} {ty : Nat → ClassId} {ad : Nat → Nat} {sz : Nat} {l : Launch} {M : JM} (hY : j_ok Y) {o : Nat} {q1 : Nat} {p2 : Int32} {p3 : Int32} {q4 : Nat} {p5 : Int32} {p6 : Int32} (ho : j_kd Y o = 0) (hq1 : j_kd Y q1 = 4) (hq4 : j_kd Y q4 = 4) {r : JM} (hE : s_X0_measureEnds Y M o q1 p2 p3 q4 p5 p6 = some r) : JMv D Y ty ad sz l yX0_measureEnds cX0_measureEnds 10 1 29 [.ref (ad o), .ref (ad q1), .int p2, .int p3, .ref (ad q4), .int p5, .int p6] M r := by
  refine j_ofV hY (by decide +kernel) (Nat.le_of_ble_eq_true rfl) (fun p e s m below meth c args R Q A hRf hRl hA jc jw kr ls hl => ?_)
  have hx := jc.1
  have hb := jc.2.1
  have hl : lv_has ls 10 [(0, .ref (ad o)), (1, .ref (ad q1)), (2, .int p2), (3, .int p3), (4, .ref (ad q4)), (5, .int p5), (6, .int p6)] := hl
  unfold s_X0_measureEnds at hE
  obtain ⟨G0, eG0, hG0, hE⟩ := j_F0o hE
  refine lv_iload_n hx hb dX0_measureEnds_0 rfl (lv_at hl 3 rfl) ?_
  refine lv_istore (lv' := [(7, .int p3), (0, .ref (ad o)), (1, .ref (ad q1)), (2, .int p2), (3, .int p3), (4, .ref (ad q4)), (5, .int p5), (6, .int p6)]) hx hb dX0_measureEnds_1 hl (by decide) rfl (fun ls hl => ?_)
  obtain ⟨G1, eG1, hG1, hE⟩ := j_ctxB hG0 hE
  have LP1 : ∀ (n : Nat) (vv2 : Int32) (mm3 : JM) (H : Heap) (locs : List Loc) (ls : Array Slot), G1 (lp_X0_measureEnds_1 Y p2 p5 p3 p6 q1 q4 o n vv2 mm3) = some r → JW D Y ty ad A s.heap mm3 H locs → lv_has ls 10 [(7, .int vv2), (0, .ref (ad o)), (1, .ref (ad q1)), (2, .int p2), (3, .int p3), (4, .ref (ad q4)), (5, .int p5), (6, .int p6)] → W p l e R s m args below meth c H locs 0 0 Q (F0 m 3 ls []) := by
    intro n
    induction n with
    | zero => intro vv2 mm3 H locs ls hE jw hl; exact absurd hE (hG1 _)
    | succ n ih =>
      intro vv2 mm3 H locs ls hE jw hl
      rw [lp_X0_measureEnds_1] at hE
      refine lv_iload hx hb dX0_measureEnds_3 (lv_at hl 0 rfl) ?_
      refine lv_iload_n hx hb dX0_measureEnds_5 rfl (lv_at hl 3 rfl) ?_
      refine lv_icmp_lt (tgt := 128) hx hb dX0_measureEnds_6 (by decide) (fun c4 => ?_) (fun c4 => ?_)
      · rw [if_pos c4] at hE
        replace hE := j_popB eG1 hE
        try dsimp only at hE
        exact kr _ _ _ _ _ (Option.some.inj (j_ret eG0 hE)) jw dX0_measureEnds_128
      · rw [if_neg c4] at hE
        refine lv_iload hx hb dX0_measureEnds_9 (lv_at hl 7 rfl) ?_
        refine lv_istore (lv' := [(8, .int p6), (7, .int vv2), (0, .ref (ad o)), (1, .ref (ad q1)), (2, .int p2), (3, .int p3), (4, .ref (ad q4)), (5, .int p5), (6, .int p6)]) hx hb dX0_measureEnds_11 hl (by decide) rfl (fun ls hl => ?_)
        obtain ⟨G5, eG5, hG5, hE⟩ := j_ctxB hG1 hE
        have E5_122 : ∀ (mm24 : JM)  (H : Heap) (locs : List Loc) (ls : Array Slot), G5 (some mm24) = some r → JW D Y ty ad A s.heap mm24 H locs → lv_has ls 10 [(7, .int vv2), (0, .ref (ad o)), (1, .ref (ad q1)), (2, .int p2), (3, .int p3), (4, .ref (ad q4)), (5, .int p5), (6, .int p6)] → W p l e R s m args below meth c H locs 0 0 Q (F0 m 122 ls []) := by
          intro mm24  H locs ls hE jw hl
          replace hE := j_popB eG5 hE
          try dsimp only at hE
          obtain ⟨vv25, evv25, hE⟩ := j_lv hE
          try dsimp only at hE
          refine lv_iinc (v := vv25) (lv' := [(7, .int vv25), (0, .ref (ad o)), (1, .ref (ad q1)), (2, .int p2), (3, .int p3), (4, .ref (ad q4)), (5, .int p5), (6, .int p6)]) hx hb dX0_measureEnds_122 hl (k := 0) rfl (by rw [evv25]; rfl) (by decide) rfl (fun ls hl => ?_)
          refine lv_goto (tgt := 3) hx hb dX0_measureEnds_125 (by decide) ?_
          exact ih vv25 mm24 H locs ls hE jw (lv_sub hl [0, 1, 2, 3, 4, 5, 6, 7] rfl)
        have LP5 : ∀ (n : Nat) (vv6 : Int32) (mm7 : JM) (H : Heap) (locs : List Loc) (ls : Array Slot), G5 (lp_X0_measureEnds_2 Y p5 p3 vv2 p6 q1 q4 o n vv6 mm7) = some r → JW D Y ty ad A s.heap mm7 H locs → lv_has ls 10 [(8, .int vv6), (7, .int vv2), (0, .ref (ad o)), (1, .ref (ad q1)), (2, .int p2), (3, .int p3), (4, .ref (ad q4)), (5, .int p5), (6, .int p6)] → W p l e R s m args below meth c H locs 0 0 Q (F0 m 13 ls []) := by
          intro n
          induction n with
          | zero => intro vv6 mm7 H locs ls hE jw hl; exact absurd hE (hG5 _)
          | succ n ih =>
            intro vv6 mm7 H locs ls hE jw hl
            rw [lp_X0_measureEnds_2] at hE
            refine lv_iload hx hb dX0_measureEnds_13 (lv_at hl 0 rfl) ?_
            refine lv_iload hx hb dX0_measureEnds_15 (lv_at hl 7 rfl) ?_
            refine lv_icmp_lt (tgt := 122) hx hb dX0_measureEnds_17 (by decide) (fun c8 => ?_) (fun c8 => ?_)
            · rw [if_pos c8] at hE
              exact E5_122 mm7  H locs ls hE jw (lv_sub hl [1, 2, 3, 4, 5, 6, 7, 8] rfl)
            · rw [if_neg c8] at hE
              refine lv_iconst (v := 0) hx hb dX0_measureEnds_20 (by decide) ?_
              refine lv_istore (lv' := [(9, .int (0 : Int32)), (8, .int vv6), (7, .int vv2), (0, .ref (ad o)), (1, .ref (ad q1)), (2, .int p2), (3, .int p3), (4, .ref (ad q4)), (5, .int p5), (6, .int p6)]) hx hb dX0_measureEnds_21 hl (by decide) rfl (fun ls hl => ?_)
              refine lv_iload hx hb dX0_measureEnds_23 (lv_at hl 2 rfl) ?_
              refine lv_iload_n hx hb dX0_measureEnds_25 rfl (lv_at hl 6 rfl) ?_
              obtain ⟨G11, eG11, hE⟩ := j_ctxL hE
              have J11 : ∀ (vv19 : Int32)  (H : Heap) (locs : List Loc) (ls : Array Slot), G11 (vv19) = some r → JW D Y ty ad A s.heap mm7 H locs → lv_has ls 10 [(9, .int vv19), (8, .int vv6), (7, .int vv2), (0, .ref (ad o)), (1, .ref (ad q1)), (2, .int p2), (3, .int p3), (4, .ref (ad q4)), (5, .int p5), (6, .int p6)] → W p l e R s m args below meth c H locs 0 0 Q (F0 m 103 ls []) := by
                intro vv19  H locs ls hE jw hl
                replace hE := j_popL eG11 hE
                try dsimp only at hE
                refine lv_aload_n hx hb dX0_measureEnds_103 rfl (lv_at hl 3 rfl) ?_
                refine jg_0_4 jc jw ho wd_4_32 dX0_measureEnds_104 ?_
                have k20 := j_sub hY ho 4 (f := 8) rfl (by decide) (by decide) (by decide)
                refine lv_iload hx hb dX0_measureEnds_107 (lv_at hl 2 rfl) ?_
                refine lv_iload hx hb dX0_measureEnds_109 (lv_at hl 1 rfl) ?_
                refine lv_iload hx hb dX0_measureEnds_111 (lv_at hl 0 rfl) ?_
                obtain ⟨xx21, exx21, hE⟩ := j_lv hE
                try dsimp only at hE
                refine jc_vv [.int vv2, .int vv6, .int vv19] [] jc jw hA k20 (by decide) rfl (c_X8_put hY k20 (M := mm7) exx21.symm) sd_X0_88 rfl hl.1 (j_hR hRf hRl rfl rfl) (Nat.le_of_ble_eq_true rfl) dX0_measureEnds_113 (fun H locs jw => ?_)
                obtain ⟨vv22, evv22, hE⟩ := j_lv hE
                try dsimp only at hE
                refine lv_iinc (v := vv22) (lv' := [(8, .int vv22), (9, .int vv19), (7, .int vv2), (0, .ref (ad o)), (1, .ref (ad q1)), (2, .int p2), (3, .int p3), (4, .ref (ad q4)), (5, .int p5), (6, .int p6)]) hx hb dX0_measureEnds_116 hl (k := 1) rfl (by rw [evv22]; rfl) (by decide) rfl (fun ls hl => ?_)
                refine lv_goto (tgt := 13) hx hb dX0_measureEnds_119 (by decide) ?_
                exact ih vv22 xx21 H locs ls hE jw (lv_sub hl [0, 2, 3, 4, 5, 6, 7, 8, 9] rfl)
              have B18 : ∀ (H : Heap) (locs : List Loc), JW D Y ty ad A s.heap mm7 H locs → (p3 ≤ vv2 ∨ p6 ≤ vv6) → W p l e R s m args below meth c H locs 0 0 Q (F0 m 103 ls []) := by
                intro H locs jw hcc
                rw [if_pos hcc] at hE
                exact J11 (0 : Int32)  H locs ls hE jw (lv_sub hl [0, 1, 2, 3, 4, 5, 6, 7, 8, 9] rfl)
              refine lv_icmp_ge (tgt := 103) hx hb dX0_measureEnds_26 (by decide) (fun c9 => B18 _ _ jw (Or.inl c9)) (fun c9 => ?_)
              refine lv_iload hx hb dX0_measureEnds_29 (lv_at hl 1 rfl) ?_
              refine lv_iload hx hb dX0_measureEnds_31 (lv_at hl 9 rfl) ?_
              refine lv_icmp_ge (tgt := 103) hx hb dX0_measureEnds_33 (by decide) (fun c10 => B18 _ _ jw (Or.inr c10)) (fun c10 => ?_)
              rw [if_neg (fun hq => hq.elim (fun hq => (j_abs c9 hq)) (fun hq => (j_abs c10 hq)))] at hE
              refine lv_aload_n hx hb dX0_measureEnds_36 rfl (lv_at hl 4 rfl) ?_
              refine lv_iload hx hb dX0_measureEnds_37 (lv_at hl 2 rfl) ?_
              refine jc_vi [.int vv2] [] jc jw hA hq1 (by decide) rfl (c_X4_at hY hq1 (M := mm7) rfl) sd_X0_49 rfl hl.1 (j_hR hRf hRl rfl rfl) (Nat.le_of_ble_eq_true rfl) dX0_measureEnds_39 (fun H locs jw => ?_)
              refine lv_aload hx hb dX0_measureEnds_42 (lv_at hl 7 rfl) ?_
              refine lv_iload hx hb dX0_measureEnds_44 (lv_at hl 1 rfl) ?_
              refine jc_vi [.int vv6] [.int (s_X4_at Y mm7 q1 vv2)] jc jw hA hq4 (by decide) rfl (c_X4_at hY hq4 (M := mm7) rfl) sd_X0_49 rfl hl.1 (j_hR hRf hRl rfl rfl) (Nat.le_of_ble_eq_true rfl) dX0_measureEnds_46 (fun H locs jw => ?_)
              obtain ⟨G13, eG13, hE⟩ := j_ctxL hE
              have J13 : ∀ (vv16 : Int32)  (H : Heap) (locs : List Loc) (ls : Array Slot), G13 (vv16) = some r → JW D Y ty ad A s.heap mm7 H locs → lv_has ls 10 [(8, .int vv6), (7, .int vv2), (0, .ref (ad o)), (1, .ref (ad q1)), (2, .int p2), (3, .int p3), (4, .ref (ad q4)), (5, .int p5), (6, .int p6)] → W p l e R s m args below meth c H locs 0 0 Q (F0 m 101 ls [.int vv16]) := by
                intro vv16  H locs ls hE jw hl
                replace hE := j_popL eG13 hE
                try dsimp only at hE
                refine lv_istore (lv' := [(9, .int vv16), (8, .int vv6), (7, .int vv2), (0, .ref (ad o)), (1, .ref (ad q1)), (2, .int p2), (3, .int p3), (4, .ref (ad q4)), (5, .int p5), (6, .int p6)]) hx hb dX0_measureEnds_101 hl (by decide) rfl (fun ls hl => ?_)
                exact J11 vv16  H locs ls hE jw (lv_sub hl [0, 1, 2, 3, 4, 5, 6, 7, 8, 9] rfl)
              refine lv_icmp_ne (tgt := 72) hx hb dX0_measureEnds_49 (by decide) (fun c12 => ?_) (fun c12 => ?_)
              · rw [if_neg c12] at hE
                refine lv_aload_n hx hb dX0_measureEnds_72 rfl (lv_at hl 3 rfl) ?_
                refine jg_0_4 jc jw ho wd_4_32 dX0_measureEnds_73 ?_
                have k15 := j_sub hY ho 4 (f := 8) rfl (by decide) (by decide) (by decide)
                refine lv_iload hx hb dX0_measureEnds_76 (lv_at hl 2 rfl) ?_
                refine lv_iconst (v := 1) hx hb dX0_measureEnds_78 (by decide) ?_
                refine lv_iadd hx hb dX0_measureEnds_79 ?_
                refine lv_iload hx hb dX0_measureEnds_80 (lv_at hl 1 rfl) ?_
                refine jc_vi [.int (vv2 + (1 : Int32)), .int vv6] [] jc jw hA k15 (by decide) rfl (c_X8_at hY k15 (M := mm7) rfl) sd_X0_77 rfl hl.1 (j_hR hRf hRl rfl rfl) (Nat.le_of_ble_eq_true rfl) dX0_measureEnds_82 (fun H locs jw => ?_)
                refine lv_aload_n hx hb dX0_measureEnds_85 rfl (lv_at hl 3 rfl) ?_
                refine jg_0_4 jc jw ho wd_4_32 dX0_measureEnds_86 ?_
                refine lv_iload hx hb dX0_measureEnds_89 (lv_at hl 2 rfl) ?_
                refine lv_iload hx hb dX0_measureEnds_91 (lv_at hl 1 rfl) ?_
                refine lv_iconst (v := 1) hx hb dX0_measureEnds_93 (by decide) ?_
                refine lv_iadd hx hb dX0_measureEnds_94 ?_
                refine jc_vi [.int vv2, .int (vv6 + (1 : Int32))] [.int (s_X8_at Y mm7 (j_rf Y o 4) (vv2 + (1 : Int32)) vv6)] jc jw hA k15 (by decide) rfl (c_X8_at hY k15 (M := mm7) rfl) sd_X0_77 rfl hl.1 (j_hR hRf hRl rfl rfl) (Nat.le_of_ble_eq_true rfl) dX0_measureEnds_95 (fun H locs jw => ?_)
                refine va_mmax hx hb (jc.2.2.1.trans hl.1.symm) jc.2.2.2.1 (jc.2.2.2.2.1 _ wd_2_50) (jc.2.2.2.2.1 _ wd_2_51) (jc.2.2.2.2.1 _ wd_1_17) (jc.2.2.2.2.1 _ wd_2_52) (j_fr1 hRf rfl) (j_lo1 hRl rfl rfl) (Nat.zero_le _) (Nat.zero_le _) dX0_measureEnds_98 ?_
                exact J13 (if (s_X8_at Y mm7 (j_rf Y o 4) (vv2 + (1 : Int32)) vv6) < (s_X8_at Y mm7 (j_rf Y o 4) vv2 (vv6 + (1 : Int32))) then (s_X8_at Y mm7 (j_rf Y o 4) vv2 (vv6 + (1 : Int32))) else (s_X8_at Y mm7 (j_rf Y o 4) (vv2 + (1 : Int32)) vv6))  H locs ls hE jw (lv_sub hl [1, 2, 3, 4, 5, 6, 7, 8, 9] rfl)
              · rw [if_pos c12] at hE
                refine lv_aload_n hx hb dX0_measureEnds_52 rfl (lv_at hl 3 rfl) ?_
                refine jg_0_4 jc jw ho wd_4_32 dX0_measureEnds_53 ?_
                have k14 := j_sub hY ho 4 (f := 8) rfl (by decide) (by decide) (by decide)
                refine lv_iload hx hb dX0_measureEnds_56 (lv_at hl 2 rfl) ?_
                refine lv_iconst (v := 1) hx hb dX0_measureEnds_58 (by decide) ?_
                refine lv_iadd hx hb dX0_measureEnds_59 ?_
                refine lv_iload hx hb dX0_measureEnds_60 (lv_at hl 1 rfl) ?_
                refine lv_iconst (v := 1) hx hb dX0_measureEnds_62 (by decide) ?_
                refine lv_iadd hx hb dX0_measureEnds_63 ?_
                refine jc_vi [.int (vv2 + (1 : Int32)), .int (vv6 + (1 : Int32))] [] jc jw hA k14 (by decide) rfl (c_X8_at hY k14 (M := mm7) rfl) sd_X0_77 rfl hl.1 (j_hR hRf hRl rfl rfl) (Nat.le_of_ble_eq_true rfl) dX0_measureEnds_64 (fun H locs jw => ?_)
                refine lv_iconst (v := 1) hx hb dX0_measureEnds_67 (by decide) ?_
                refine lv_iadd hx hb dX0_measureEnds_68 ?_
                refine lv_goto (tgt := 101) hx hb dX0_measureEnds_69 (by decide) ?_
                exact J13 ((s_X8_at Y mm7 (j_rf Y o 4) (vv2 + (1 : Int32)) (vv6 + (1 : Int32))) + (1 : Int32))  H locs ls hE jw (lv_sub hl [1, 2, 3, 4, 5, 6, 7, 8, 9] rfl)
        exact LP5 j_fuel p6 mm3 H locs ls hE jw (lv_sub hl [0, 1, 2, 3, 4, 5, 6, 7, 8] rfl)
  exact LP1 j_fuel p3 M s.heap [] ls hE jw (lv_sub hl [0, 1, 2, 3, 4, 5, 6, 7] rfl)
def s_X0_addPair (Y : JY) (M : JM) (o : Nat) (p1 : Int32) (p2 : Int32) : JM := lt_ (s_X4_put Y M (j_rf Y o 0) p1 p2) fun xx2 => lt_ (s_X4_put Y xx2 (j_rf Y o 1) p2 p1) fun xx4 => lt_ (j_up xx4 o 5 ((xx4 o 5) + (1 : Int32))) fun mm5 => mm5
set_option maxRecDepth 100000 in
set_option maxHeartbeats 4000000 in
theorem c_X0_addPair {D : va_G} {Y : JY} {ty : Nat → ClassId} {ad : Nat → Nat} {sz : Nat} {l : Launch} {M : JM} (hY : j_ok Y) {o : Nat} {p1 : Int32} {p2 : Int32} (ho : j_kd Y o = 0) {r : JM} (hE : s_X0_addPair Y M o p1 p2 = r) : JMv D Y ty ad sz l yX0_addPair cX0_addPair 3 1 22 [.ref (ad o), .int p1, .int p2] M r := by
  refine j_ofV hY (by decide +kernel) (Nat.le_of_ble_eq_true rfl) (fun p e s m below meth c args R Q A hRf hRl hA jc jw kr ls hl => ?_)
  have hx := jc.1
  have hb := jc.2.1
  have hl : lv_has ls 3 [(0, .ref (ad o)), (1, .int p1), (2, .int p2)] := hl
  unfold s_X0_addPair at hE
  obtain ⟨G0, eG0, hE⟩ := j_F0 hE
  refine lv_aload_n hx hb dX0_addPair_0 rfl (lv_at hl 0 rfl) ?_
  refine jg_0_0 jc jw ho wd_4_28 dX0_addPair_1 ?_
  have k1 := j_sub hY ho 0 (f := 4) rfl (by decide) (by decide) (by decide)
  refine lv_iload_n hx hb dX0_addPair_4 rfl (lv_at hl 1 rfl) ?_
  refine lv_iload_n hx hb dX0_addPair_5 rfl (lv_at hl 2 rfl) ?_
  obtain ⟨xx2, exx2, hE⟩ := j_lv hE
  try dsimp only at hE
  refine jc_vv [.int p1, .int p2] [] jc jw hA k1 (by decide) rfl (c_X4_put hY k1 (M := M) exx2.symm) sd_X0_67 rfl hl.1 (j_hR hRf hRl rfl rfl) (Nat.le_of_ble_eq_true rfl) dX0_addPair_6 (fun H locs jw => ?_)
  refine lv_aload_n hx hb dX0_addPair_9 rfl (lv_at hl 0 rfl) ?_
  refine jg_0_1 jc jw ho wd_4_29 dX0_addPair_10 ?_
  have k3 := j_sub hY ho 1 (f := 4) rfl (by decide) (by decide) (by decide)
  refine lv_iload_n hx hb dX0_addPair_13 rfl (lv_at hl 2 rfl) ?_
  refine lv_iload_n hx hb dX0_addPair_14 rfl (lv_at hl 1 rfl) ?_
  obtain ⟨xx4, exx4, hE⟩ := j_lv hE
  try dsimp only at hE
  refine jc_vv [.int p2, .int p1] [] jc jw hA k3 (by decide) rfl (c_X4_put hY k3 (M := xx2) exx4.symm) sd_X0_67 rfl hl.1 (j_hR hRf hRl rfl rfl) (Nat.le_of_ble_eq_true rfl) dX0_addPair_15 (fun H locs jw => ?_)
  refine lv_aload_n hx hb dX0_addPair_18 rfl (lv_at hl 0 rfl) ?_
  refine lv_dup hx hb dX0_addPair_19 rfl ?_
  refine jg_0_5 jc jw ho wd_4_33 dX0_addPair_20 ?_
  refine lv_iconst (v := 1) hx hb dX0_addPair_23 (by decide) ?_
  refine lv_iadd hx hb dX0_addPair_24 ?_
  refine js_0_5 jc jw ho wd_4_33 dX0_addPair_25 (fun H locs jw => ?_)
  obtain ⟨mm5, emm5, hE⟩ := j_lv hE
  rw [← emm5] at jw
  try dsimp only at hE
  exact kr _ _ _ _ _ (j_ret eG0 hE) jw dX0_addPair_28
def lp_X0_alignPart_1 (Y : JY) (p3 : Int32) (q4 : Nat) (q1 : Nat) (p6 : Int32) (o : Nat) (n : Nat) (vv3 : Int32) (vv4 : Int32) (mm5 : JM) : Option (JM) := match n with
  | 0 => none
  | n + 1 => if p3 ≤ vv4 then (some mm5) else ((s_X4_find Y mm5 q4 (s_X4_at Y mm5 q1 vv4) vv3 p6).bind fun xx7 => lt_ (if xx7 = (-1 : Int32) ∨ ¬ (((s_X8_at Y mm5 (j_rf Y o 4) (vv4 + (1 : Int32)) (xx7 + (1 : Int32))) + (1 : Int32)) = (s_X8_at Y mm5 (j_rf Y o 4) vv4 vv3)) then ((vv3, mm5)) else (lt_ (s_X0_addPair Y mm5 o vv4 xx7) fun xx12 => lt_ (xx7 + (1 : Int32)) fun vv13 => (vv13, xx12))) fun xx18 => lt_ (vv4 + (1 : Int32)) fun vv17 => lp_X0_alignPart_1 Y p3 q4 q1 p6 o n xx18.1 vv17 xx18.2)
def s_X0_alignPart (Y : JY) (M : JM) (o : Nat) (q1 : Nat) (p2 : Int32) (p3 : Int32) (q4 : Nat) (p5 : Int32) (p6 : Int32) : Option (JM) := (s_X0_measureEnds Y M o q1 p2 p3 q4 p5 p6).bind fun xx1 => (lp_X0_alignPart_1 Y p3 q4 q1 p6 o j_fuel p5 p2 xx1).bind fun xx19 => some xx19
set_option maxRecDepth 100000 in
set_option maxHeartbeats 4000000 in
theorem c_X0_alignPart {D : va_G} {Y : JY} {ty : Nat → ClassId} {ad : Nat → Nat} {sz : Nat} {l : Launch} {M : JM} (hY : j_ok Y) {o : Nat} {q1 : Nat} {p2 : Int32} {p3 : Int32} {q4 : Nat} {p5 : Int32} {p6 : Int32} (ho : j_kd Y o = 0) (hq1 : j_kd Y q1 = 4) (hq4 : j_kd Y q4 = 4) {r : JM} (hE : s_X0_alignPart Y M o q1 p2 p3 q4 p5 p6 = some r) : JMv D Y ty ad sz l yX0_alignPart cX0_alignPart 10 2 58 [.ref (ad o), .ref (ad q1), .int p2, .int p3, .ref (ad q4), .int p5, .int p6] M r := by
  refine j_ofV hY (by decide +kernel) (Nat.le_of_ble_eq_true rfl) (fun p e s m below meth c args R Q A hRf hRl hA jc jw kr ls hl => ?_)
  have hx := jc.1
  have hb := jc.2.1
  have hl : lv_has ls 10 [(0, .ref (ad o)), (1, .ref (ad q1)), (2, .int p2), (3, .int p3), (4, .ref (ad q4)), (5, .int p5), (6, .int p6)] := hl
  unfold s_X0_alignPart at hE
  obtain ⟨G0, eG0, hG0, hE⟩ := j_F0o hE
  refine lv_aload_n hx hb dX0_alignPart_0 rfl (lv_at hl 0 rfl) ?_
  refine lv_aload_n hx hb dX0_alignPart_1 rfl (lv_at hl 1 rfl) ?_
  refine lv_iload_n hx hb dX0_alignPart_2 rfl (lv_at hl 2 rfl) ?_
  refine lv_iload_n hx hb dX0_alignPart_3 rfl (lv_at hl 3 rfl) ?_
  refine lv_aload hx hb dX0_alignPart_4 (lv_at hl 4 rfl) ?_
  refine lv_iload hx hb dX0_alignPart_6 (lv_at hl 5 rfl) ?_
  refine lv_iload hx hb dX0_alignPart_8 (lv_at hl 6 rfl) ?_
  obtain ⟨xx1, exx1, hE⟩ := j_bd hG0 hE
  try dsimp only at hE
  refine jc_vv [.ref (ad q1), .int p2, .int p3, .ref (ad q4), .int p5, .int p6] [] jc jw hA ho (by decide) rfl (c_X0_measureEnds hY ho hq1 hq4 (M := M) exx1) sd_X0_70 rfl hl.1 (j_hR hRf hRl rfl rfl) (Nat.le_of_ble_eq_true rfl) dX0_alignPart_10 (fun H locs jw => ?_)
  refine lv_iload hx hb dX0_alignPart_13 (lv_at hl 5 rfl) ?_
  refine lv_istore (lv' := [(7, .int p5), (0, .ref (ad o)), (1, .ref (ad q1)), (2, .int p2), (3, .int p3), (4, .ref (ad q4)), (5, .int p5), (6, .int p6)]) hx hb dX0_alignPart_15 hl (by decide) rfl (fun ls hl => ?_)
  refine lv_iload_n hx hb dX0_alignPart_17 rfl (lv_at hl 3 rfl) ?_
  refine lv_istore (lv' := [(8, .int p2), (7, .int p5), (0, .ref (ad o)), (1, .ref (ad q1)), (2, .int p2), (3, .int p3), (4, .ref (ad q4)), (5, .int p5), (6, .int p6)]) hx hb dX0_alignPart_18 hl (by decide) rfl (fun ls hl => ?_)
  obtain ⟨G2, eG2, hG2, hE⟩ := j_ctxB hG0 hE
  have LP2 : ∀ (n : Nat) (vv3 : Int32) (vv4 : Int32) (mm5 : JM) (H : Heap) (locs : List Loc) (ls : Array Slot), G2 (lp_X0_alignPart_1 Y p3 q4 q1 p6 o n vv3 vv4 mm5) = some r → JW D Y ty ad A s.heap mm5 H locs → lv_has ls 10 [(8, .int vv4), (7, .int vv3), (0, .ref (ad o)), (1, .ref (ad q1)), (3, .int p3), (4, .ref (ad q4)), (6, .int p6)] → W p l e R s m args below meth c H locs 0 0 Q (F0 m 20 ls []) := by
    intro n
    induction n with
    | zero => intro vv3 vv4 mm5 H locs ls hE jw hl; exact absurd hE (hG2 _)
    | succ n ih =>
      intro vv3 vv4 mm5 H locs ls hE jw hl
      rw [lp_X0_alignPart_1] at hE
      refine lv_iload hx hb dX0_alignPart_20 (lv_at hl 0 rfl) ?_
      refine lv_iload_n hx hb dX0_alignPart_22 rfl (lv_at hl 4 rfl) ?_
      refine lv_icmp_ge (tgt := 100) hx hb dX0_alignPart_23 (by decide) (fun c6 => ?_) (fun c6 => ?_)
      · rw [if_pos c6] at hE
        replace hE := j_popB eG2 hE
        try dsimp only at hE
        exact kr _ _ _ _ _ (Option.some.inj (j_ret eG0 hE)) jw dX0_alignPart_100
      · rw [if_neg c6] at hE
        refine lv_aload hx hb dX0_alignPart_26 (lv_at hl 5 rfl) ?_
        refine lv_aload_n hx hb dX0_alignPart_28 rfl (lv_at hl 3 rfl) ?_
        refine lv_iload hx hb dX0_alignPart_29 (lv_at hl 0 rfl) ?_
        refine jc_vi [.int vv4] [.ref (ad q4)] jc jw hA hq1 (by decide) rfl (c_X4_at hY hq1 (M := mm5) rfl) sd_X0_49 rfl hl.1 (j_hR hRf hRl rfl rfl) (Nat.le_of_ble_eq_true rfl) dX0_alignPart_31 (fun H locs jw => ?_)
        refine lv_iload hx hb dX0_alignPart_34 (lv_at hl 1 rfl) ?_
        refine lv_iload hx hb dX0_alignPart_36 (lv_at hl 6 rfl) ?_
        obtain ⟨xx7, exx7, hE⟩ := j_bd hG2 hE
        try dsimp only at hE
        refine jc_vi [.int (s_X4_at Y mm5 q1 vv4), .int vv3, .int p6] [] jc jw hA hq4 (by decide) rfl (c_X4_find hY hq4 (M := mm5) exx7) sd_X0_73 rfl hl.1 (j_hR hRf hRl rfl rfl) (Nat.le_of_ble_eq_true rfl) dX0_alignPart_38 (fun H locs jw => ?_)
        refine lv_istore (lv' := [(9, .int xx7), (8, .int vv4), (7, .int vv3), (0, .ref (ad o)), (1, .ref (ad q1)), (3, .int p3), (4, .ref (ad q4)), (6, .int p6)]) hx hb dX0_alignPart_41 hl (by decide) rfl (fun ls hl => ?_)
        refine lv_iload hx hb dX0_alignPart_43 (lv_at hl 0 rfl) ?_
        refine lv_iconst (v := -1) hx hb dX0_alignPart_45 (by decide) ?_
        obtain ⟨G11, eG11, hE⟩ := j_ctxL hE
        have J11 : ∀ (vv15 : Int32) (mm16 : JM)  (H : Heap) (locs : List Loc) (ls : Array Slot), G11 ((vv15, mm16)) = some r → JW D Y ty ad A s.heap mm16 H locs → lv_has ls 10 [(8, .int vv4), (7, .int vv15), (0, .ref (ad o)), (1, .ref (ad q1)), (3, .int p3), (4, .ref (ad q4)), (6, .int p6)] → W p l e R s m args below meth c H locs 0 0 Q (F0 m 94 ls []) := by
          intro vv15 mm16  H locs ls hE jw hl
          replace hE := j_popL eG11 hE
          try dsimp only at hE
          obtain ⟨vv17, evv17, hE⟩ := j_lv hE
          try dsimp only at hE
          refine lv_iinc (v := vv17) (lv' := [(8, .int vv17), (7, .int vv15), (0, .ref (ad o)), (1, .ref (ad q1)), (3, .int p3), (4, .ref (ad q4)), (6, .int p6)]) hx hb dX0_alignPart_94 hl (k := 0) rfl (by rw [evv17]; rfl) (by decide) rfl (fun ls hl => ?_)
          refine lv_goto (tgt := 20) hx hb dX0_alignPart_97 (by decide) ?_
          exact ih vv15 vv17 mm16 H locs ls hE jw (lv_sub hl [0, 1, 2, 3, 4, 5, 6] rfl)
        have B14 : ∀ (H : Heap) (locs : List Loc), JW D Y ty ad A s.heap mm5 H locs → (xx7 = (-1 : Int32) ∨ ¬ (((s_X8_at Y mm5 (j_rf Y o 4) (vv4 + (1 : Int32)) (xx7 + (1 : Int32))) + (1 : Int32)) = (s_X8_at Y mm5 (j_rf Y o 4) vv4 vv3))) → W p l e R s m args below meth c H locs 0 0 Q (F0 m 94 ls []) := by
          intro H locs jw hcc
          rw [if_pos hcc] at hE
          exact J11 vv3 mm5  H locs ls hE jw (lv_sub hl [1, 2, 3, 4, 5, 6, 7] rfl)
        refine lv_icmp_eq (tgt := 94) hx hb dX0_alignPart_46 (by decide) (fun c8 => B14 _ _ jw (Or.inl c8)) (fun c8 => ?_)
        refine lv_aload_n hx hb dX0_alignPart_49 rfl (lv_at hl 3 rfl) ?_
        refine jg_0_4 jc jw ho wd_4_32 dX0_alignPart_50 ?_
        have k9 := j_sub hY ho 4 (f := 8) rfl (by decide) (by decide) (by decide)
        refine lv_iload hx hb dX0_alignPart_53 (lv_at hl 1 rfl) ?_
        refine lv_iconst (v := 1) hx hb dX0_alignPart_55 (by decide) ?_
        refine lv_iadd hx hb dX0_alignPart_56 ?_
        refine lv_iload hx hb dX0_alignPart_57 (lv_at hl 0 rfl) ?_
        refine lv_iconst (v := 1) hx hb dX0_alignPart_59 (by decide) ?_
        refine lv_iadd hx hb dX0_alignPart_60 ?_
        refine jc_vi [.int (vv4 + (1 : Int32)), .int (xx7 + (1 : Int32))] [] jc jw hA k9 (by decide) rfl (c_X8_at hY k9 (M := mm5) rfl) sd_X0_77 rfl hl.1 (j_hR hRf hRl rfl rfl) (Nat.le_of_ble_eq_true rfl) dX0_alignPart_61 (fun H locs jw => ?_)
        refine lv_iconst (v := 1) hx hb dX0_alignPart_64 (by decide) ?_
        refine lv_iadd hx hb dX0_alignPart_65 ?_
        refine lv_aload_n hx hb dX0_alignPart_66 rfl (lv_at hl 3 rfl) ?_
        refine jg_0_4 jc jw ho wd_4_32 dX0_alignPart_67 ?_
        refine lv_iload hx hb dX0_alignPart_70 (lv_at hl 1 rfl) ?_
        refine lv_iload hx hb dX0_alignPart_72 (lv_at hl 2 rfl) ?_
        refine jc_vi [.int vv4, .int vv3] [.int ((s_X8_at Y mm5 (j_rf Y o 4) (vv4 + (1 : Int32)) (xx7 + (1 : Int32))) + (1 : Int32))] jc jw hA k9 (by decide) rfl (c_X8_at hY k9 (M := mm5) rfl) sd_X0_77 rfl hl.1 (j_hR hRf hRl rfl rfl) (Nat.le_of_ble_eq_true rfl) dX0_alignPart_74 (fun H locs jw => ?_)
        refine lv_icmp_ne (tgt := 94) hx hb dX0_alignPart_77 (by decide) (fun c10 => B14 _ _ jw (Or.inr c10)) (fun c10 => ?_)
        rw [if_neg (fun hq => hq.elim (fun hq => (j_abs c8 hq)) (fun hq => (j_absn c10 hq)))] at hE
        refine lv_aload_n hx hb dX0_alignPart_80 rfl (lv_at hl 3 rfl) ?_
        refine lv_iload hx hb dX0_alignPart_81 (lv_at hl 1 rfl) ?_
        refine lv_iload hx hb dX0_alignPart_83 (lv_at hl 0 rfl) ?_
        obtain ⟨xx12, exx12, hE⟩ := j_lv hE
        try dsimp only at hE
        refine jc_vv [.int vv4, .int xx7] [] jc jw hA ho (by decide) rfl (c_X0_addPair hY ho (M := mm5) exx12.symm) sd_X0_80 rfl hl.1 (j_hR hRf hRl rfl rfl) (Nat.le_of_ble_eq_true rfl) dX0_alignPart_85 (fun H locs jw => ?_)
        refine lv_iload hx hb dX0_alignPart_88 (lv_at hl 0 rfl) ?_
        refine lv_iconst (v := 1) hx hb dX0_alignPart_90 (by decide) ?_
        refine lv_iadd hx hb dX0_alignPart_91 ?_
        refine lv_topi (fun vv13 evv13 => ?_)
        replace hE := j_lu hE evv13
        try dsimp only at hE
        refine lv_istore (lv' := [(7, .int vv13), (9, .int xx7), (8, .int vv4), (0, .ref (ad o)), (1, .ref (ad q1)), (3, .int p3), (4, .ref (ad q4)), (6, .int p6)]) hx hb dX0_alignPart_92 hl (by decide) rfl (fun ls hl => ?_)
        exact J11 vv13 xx12  H locs ls hE jw (lv_sub hl [2, 0, 3, 4, 5, 6, 7] rfl)
  exact LP2 j_fuel p5 p2 xx1 H locs ls hE jw (lv_sub hl [0, 1, 2, 3, 5, 6, 8] rfl)
def lp_X0_alignByAnchors_1 (Y : JY) (q1 : Nat) (o : Nat) (q2 : Nat) (n : Nat) (vv5 : Int32) (vv6 : Int32) (vv7 : Int32) (vv8 : Int32) (mm9 : JM) : Option (Int32 × Int32 × JM) := match n with
  | 0 => none
  | n + 1 => if (s_X4_size Y mm9 q1) ≤ vv8 then (some (vv6, vv7, mm9)) else (lt_ (s_X4_at Y mm9 (j_rf Y o 2) vv8) fun vv12 => (if vv5 ≤ 0 ∨ vv12 < vv7 ∨ ¬ ((s_X4_at Y mm9 (j_rf Y o 3) vv8) = vv5) then (some (vv5, vv6, vv7, mm9)) else ((s_X0_alignPart Y mm9 o q1 vv6 vv8 q2 vv7 vv12).bind fun xx18 => lt_ (s_X0_addPair Y xx18 o vv8 vv12) fun xx19 => lt_ (j_up xx19 o 6 ((xx19 o 6) + (1 : Int32))) fun mm20 => lt_ (vv8 + (1 : Int32)) fun vv21 => lt_ (vv12 + (1 : Int32)) fun vv22 => lt_ (vv5 + (-1 : Int32)) fun vv23 => some (vv23, vv21, vv22, mm20))).bind fun xx30 => lt_ (vv8 + (1 : Int32)) fun vv29 => lp_X0_alignByAnchors_1 Y q1 o q2 n xx30.1 xx30.2.1 xx30.2.2.1 vv29 xx30.2.2.2)
def s_X0_alignByAnchors (Y : JY) (M : JM) (o : Nat) (q1 : Nat) (q2 : Nat) : Option (JM) := (s_X0_findCandidates Y M o q1 q2).bind fun xx1 => (s_X0_measureChains Y xx1 o).bind fun xx2 => lt_ xx2.1 fun vv3 => (lp_X0_alignByAnchors_1 Y q1 o q2 j_fuel vv3 (0 : Int32) (0 : Int32) (0 : Int32) xx2.2).bind fun xx35 => (s_X0_alignPart Y xx35.2.2 o q1 xx35.1 (s_X4_size Y xx35.2.2 q1) q2 xx35.2.1 (s_X4_size Y xx35.2.2 q2)).bind fun xx34 => some xx34
set_option maxRecDepth 100000 in
set_option maxHeartbeats 4000000 in
theorem c_X0_alignByAnchors {D : va_G} {Y : JY} {ty : Nat → ClassId} {ad : Nat → Nat} {sz : Nat} {l : Launch} {M : JM} (hY : j_ok Y) {o : Nat} {q1 : Nat} {q2 : Nat} (ho : j_kd Y o = 0) (hq1 : j_kd Y q1 = 4) (hq2 : j_kd Y q2 = 4) {r : JM} (hE : s_X0_alignByAnchors Y M o q1 q2 = some r) : JMv D Y ty ad sz l yX0_alignByAnchors cX0_alignByAnchors 8 3 87 [.ref (ad o), .ref (ad q1), .ref (ad q2)] M r := by
  refine j_ofV hY (by decide +kernel) (Nat.le_of_ble_eq_true rfl) (fun p e s m below meth c args R Q A hRf hRl hA jc jw kr ls hl => ?_)
  have hx := jc.1
  have hb := jc.2.1
  have hl : lv_has ls 8 [(0, .ref (ad o)), (1, .ref (ad q1)), (2, .ref (ad q2))] := hl
  unfold s_X0_alignByAnchors at hE
  obtain ⟨G0, eG0, hG0, hE⟩ := j_F0o hE
  refine lv_aload_n hx hb dX0_alignByAnchors_0 rfl (lv_at hl 0 rfl) ?_
  refine lv_aload_n hx hb dX0_alignByAnchors_1 rfl (lv_at hl 1 rfl) ?_
  refine lv_aload_n hx hb dX0_alignByAnchors_2 rfl (lv_at hl 2 rfl) ?_
  obtain ⟨xx1, exx1, hE⟩ := j_bd hG0 hE
  try dsimp only at hE
  refine jc_vv [.ref (ad q1), .ref (ad q2)] [] jc jw hA ho (by decide) rfl (c_X0_findCandidates hY ho hq1 hq2 (M := M) exx1) sd_X0_91 rfl hl.1 (j_hR hRf hRl rfl rfl) (Nat.le_of_ble_eq_true rfl) dX0_alignByAnchors_3 (fun H locs jw => ?_)
  refine lv_aload_n hx hb dX0_alignByAnchors_6 rfl (lv_at hl 0 rfl) ?_
  obtain ⟨xx2, exx2, hE⟩ := j_bd hG0 hE
  try dsimp only at hE
  refine jc_vi [] [] jc jw hA ho (by decide) rfl (c_X0_measureChains hY ho (M := xx1) exx2) sd_X0_94 rfl hl.1 (j_hR hRf hRl rfl rfl) (Nat.le_of_ble_eq_true rfl) dX0_alignByAnchors_7 (fun H locs jw => ?_)
  refine lv_topi (fun vv3 evv3 => ?_)
  replace hE := j_lu hE evv3
  try dsimp only at hE
  refine lv_istore_n (lv' := [(3, .int vv3), (0, .ref (ad o)), (1, .ref (ad q1)), (2, .ref (ad q2))]) hx hb dX0_alignByAnchors_10 rfl hl (by decide) rfl (fun ls hl => ?_)
  refine lv_iconst (v := 0) hx hb dX0_alignByAnchors_11 (by decide) ?_
  refine lv_istore (lv' := [(4, .int (0 : Int32)), (3, .int vv3), (0, .ref (ad o)), (1, .ref (ad q1)), (2, .ref (ad q2))]) hx hb dX0_alignByAnchors_12 hl (by decide) rfl (fun ls hl => ?_)
  refine lv_iconst (v := 0) hx hb dX0_alignByAnchors_14 (by decide) ?_
  refine lv_istore (lv' := [(5, .int (0 : Int32)), (4, .int (0 : Int32)), (3, .int vv3), (0, .ref (ad o)), (1, .ref (ad q1)), (2, .ref (ad q2))]) hx hb dX0_alignByAnchors_15 hl (by decide) rfl (fun ls hl => ?_)
  refine lv_iconst (v := 0) hx hb dX0_alignByAnchors_17 (by decide) ?_
  refine lv_istore (lv' := [(6, .int (0 : Int32)), (5, .int (0 : Int32)), (4, .int (0 : Int32)), (3, .int vv3), (0, .ref (ad o)), (1, .ref (ad q1)), (2, .ref (ad q2))]) hx hb dX0_alignByAnchors_18 hl (by decide) rfl (fun ls hl => ?_)
  obtain ⟨G4, eG4, hG4, hE⟩ := j_ctxB hG0 hE
  have E4_117 : ∀ (vv31 : Int32) (vv32 : Int32) (mm33 : JM)  (H : Heap) (locs : List Loc) (ls : Array Slot), G4 (some (vv31, vv32, mm33)) = some r → JW D Y ty ad A s.heap mm33 H locs → lv_has ls 8 [(5, .int vv32), (4, .int vv31), (0, .ref (ad o)), (1, .ref (ad q1)), (2, .ref (ad q2))] → W p l e R s m args below meth c H locs 0 0 Q (F0 m 117 ls []) := by
    intro vv31 vv32 mm33  H locs ls hE jw hl
    replace hE := j_popB eG4 hE
    try dsimp only at hE
    refine lv_aload_n hx hb dX0_alignByAnchors_117 rfl (lv_at hl 2 rfl) ?_
    refine lv_aload_n hx hb dX0_alignByAnchors_118 rfl (lv_at hl 3 rfl) ?_
    refine lv_iload hx hb dX0_alignByAnchors_119 (lv_at hl 1 rfl) ?_
    refine lv_aload_n hx hb dX0_alignByAnchors_121 rfl (lv_at hl 3 rfl) ?_
    refine jc_vi [] [.int vv31, .ref (ad q1), .ref (ad o)] jc jw hA hq1 (by decide) rfl (c_X4_size hY hq1 (M := mm33) rfl) sd_X0_53 rfl hl.1 (j_hR hRf hRl rfl rfl) (Nat.le_of_ble_eq_true rfl) dX0_alignByAnchors_122 (fun H locs jw => ?_)
    refine lv_aload_n hx hb dX0_alignByAnchors_125 rfl (lv_at hl 4 rfl) ?_
    refine lv_iload hx hb dX0_alignByAnchors_126 (lv_at hl 0 rfl) ?_
    refine lv_aload_n hx hb dX0_alignByAnchors_128 rfl (lv_at hl 4 rfl) ?_
    refine jc_vi [] [.int vv32, .ref (ad q2), .int (s_X4_size Y mm33 q1), .int vv31, .ref (ad q1), .ref (ad o)] jc jw hA hq2 (by decide) rfl (c_X4_size hY hq2 (M := mm33) rfl) sd_X0_53 rfl hl.1 (j_hR hRf hRl rfl rfl) (Nat.le_of_ble_eq_true rfl) dX0_alignByAnchors_129 (fun H locs jw => ?_)
    obtain ⟨xx34, exx34, hE⟩ := j_bd hG0 hE
    try dsimp only at hE
    refine jc_vv [.ref (ad q1), .int vv31, .int (s_X4_size Y mm33 q1), .ref (ad q2), .int vv32, .int (s_X4_size Y mm33 q2)] [] jc jw hA ho (by decide) rfl (c_X0_alignPart hY ho hq1 hq2 (M := mm33) exx34) sd_X0_63 rfl hl.1 (j_hR hRf hRl rfl rfl) (Nat.le_of_ble_eq_true rfl) dX0_alignByAnchors_132 (fun H locs jw => ?_)
    exact kr _ _ _ _ _ (Option.some.inj (j_ret eG0 hE)) jw dX0_alignByAnchors_135
  have LP4 : ∀ (n : Nat) (vv5 : Int32) (vv6 : Int32) (vv7 : Int32) (vv8 : Int32) (mm9 : JM) (H : Heap) (locs : List Loc) (ls : Array Slot), G4 (lp_X0_alignByAnchors_1 Y q1 o q2 n vv5 vv6 vv7 vv8 mm9) = some r → JW D Y ty ad A s.heap mm9 H locs → lv_has ls 8 [(6, .int vv8), (5, .int vv7), (4, .int vv6), (3, .int vv5), (0, .ref (ad o)), (1, .ref (ad q1)), (2, .ref (ad q2))] → W p l e R s m args below meth c H locs 0 0 Q (F0 m 20 ls []) := by
    intro n
    induction n with
    | zero => intro vv5 vv6 vv7 vv8 mm9 H locs ls hE jw hl; exact absurd hE (hG4 _)
    | succ n ih =>
      intro vv5 vv6 vv7 vv8 mm9 H locs ls hE jw hl
      rw [lp_X0_alignByAnchors_1] at hE
      refine lv_iload hx hb dX0_alignByAnchors_20 (lv_at hl 0 rfl) ?_
      refine lv_aload_n hx hb dX0_alignByAnchors_22 rfl (lv_at hl 5 rfl) ?_
      refine jc_vi [] [.int vv8] jc jw hA hq1 (by decide) rfl (c_X4_size hY hq1 (M := mm9) rfl) sd_X0_53 rfl hl.1 (j_hR hRf hRl rfl rfl) (Nat.le_of_ble_eq_true rfl) dX0_alignByAnchors_23 (fun H locs jw => ?_)
      refine lv_icmp_ge (tgt := 117) hx hb dX0_alignByAnchors_26 (by decide) (fun c10 => ?_) (fun c10 => ?_)
      · rw [if_pos c10] at hE
        exact E4_117 vv6 vv7 mm9  H locs ls hE jw (lv_sub hl [1, 2, 4, 5, 6] rfl)
      · rw [if_neg c10] at hE
        refine lv_aload_n hx hb dX0_alignByAnchors_29 rfl (lv_at hl 4 rfl) ?_
        refine jg_0_2 jc jw ho wd_4_30 dX0_alignByAnchors_30 ?_
        have k11 := j_sub hY ho 2 (f := 4) rfl (by decide) (by decide) (by decide)
        refine lv_iload hx hb dX0_alignByAnchors_33 (lv_at hl 0 rfl) ?_
        refine jc_vi [.int vv8] [] jc jw hA k11 (by decide) rfl (c_X4_at hY k11 (M := mm9) rfl) sd_X0_49 rfl hl.1 (j_hR hRf hRl rfl rfl) (Nat.le_of_ble_eq_true rfl) dX0_alignByAnchors_35 (fun H locs jw => ?_)
        refine lv_topi (fun vv12 evv12 => ?_)
        replace hE := j_lu hE evv12
        try dsimp only at hE
        refine lv_istore (lv' := [(7, .int vv12), (6, .int vv8), (5, .int vv7), (4, .int vv6), (3, .int vv5), (0, .ref (ad o)), (1, .ref (ad q1)), (2, .ref (ad q2))]) hx hb dX0_alignByAnchors_38 hl (by decide) rfl (fun ls hl => ?_)
        refine lv_iload_n hx hb dX0_alignByAnchors_40 rfl (lv_at hl 4 rfl) ?_
        obtain ⟨G17, eG17, hG17, hE⟩ := j_ctxB hG4 hE
        have J17 : ∀ (vv25 : Int32) (vv26 : Int32) (vv27 : Int32) (mm28 : JM)  (H : Heap) (locs : List Loc) (ls : Array Slot), G17 (some (vv25, vv26, vv27, mm28)) = some r → JW D Y ty ad A s.heap mm28 H locs → lv_has ls 8 [(6, .int vv8), (5, .int vv27), (4, .int vv26), (3, .int vv25), (0, .ref (ad o)), (1, .ref (ad q1)), (2, .ref (ad q2))] → W p l e R s m args below meth c H locs 0 0 Q (F0 m 111 ls []) := by
          intro vv25 vv26 vv27 mm28  H locs ls hE jw hl
          replace hE := j_popB eG17 hE
          try dsimp only at hE
          obtain ⟨vv29, evv29, hE⟩ := j_lv hE
          try dsimp only at hE
          refine lv_iinc (v := vv29) (lv' := [(6, .int vv29), (5, .int vv27), (4, .int vv26), (3, .int vv25), (0, .ref (ad o)), (1, .ref (ad q1)), (2, .ref (ad q2))]) hx hb dX0_alignByAnchors_111 hl (k := 0) rfl (by rw [evv29]; rfl) (by decide) rfl (fun ls hl => ?_)
          refine lv_goto (tgt := 20) hx hb dX0_alignByAnchors_114 (by decide) ?_
          exact ih vv25 vv26 vv27 vv29 mm28 H locs ls hE jw (lv_sub hl [0, 1, 2, 3, 4, 5, 6] rfl)
        have B24 : ∀ (H : Heap) (locs : List Loc), JW D Y ty ad A s.heap mm9 H locs → (vv5 ≤ 0 ∨ vv12 < vv7 ∨ ¬ ((s_X4_at Y mm9 (j_rf Y o 3) vv8) = vv5)) → W p l e R s m args below meth c H locs 0 0 Q (F0 m 111 ls []) := by
          intro H locs jw hcc
          rw [if_pos hcc] at hE
          exact J17 vv5 vv6 vv7 mm9  H locs ls hE jw (lv_sub hl [1, 2, 3, 4, 5, 6, 7] rfl)
        refine lv_if_le (tgt := 111) hx hb dX0_alignByAnchors_41 (by decide) (fun c13 => B24 _ _ jw (Or.inl c13)) (fun c13 => ?_)
        refine lv_iload hx hb dX0_alignByAnchors_44 (lv_at hl 0 rfl) ?_
        refine lv_iload hx hb dX0_alignByAnchors_46 (lv_at hl 2 rfl) ?_
        refine lv_icmp_lt (tgt := 111) hx hb dX0_alignByAnchors_48 (by decide) (fun c14 => B24 _ _ jw (Or.inr (Or.inl c14))) (fun c14 => ?_)
        refine lv_aload_n hx hb dX0_alignByAnchors_51 rfl (lv_at hl 5 rfl) ?_
        refine jg_0_3 jc jw ho wd_4_31 dX0_alignByAnchors_52 ?_
        have k15 := j_sub hY ho 3 (f := 4) rfl (by decide) (by decide) (by decide)
        refine lv_iload hx hb dX0_alignByAnchors_55 (lv_at hl 1 rfl) ?_
        refine jc_vi [.int vv8] [] jc jw hA k15 (by decide) rfl (c_X4_at hY k15 (M := mm9) rfl) sd_X0_49 rfl hl.1 (j_hR hRf hRl rfl rfl) (Nat.le_of_ble_eq_true rfl) dX0_alignByAnchors_57 (fun H locs jw => ?_)
        refine lv_iload_n hx hb dX0_alignByAnchors_60 rfl (lv_at hl 4 rfl) ?_
        refine lv_icmp_ne (tgt := 111) hx hb dX0_alignByAnchors_61 (by decide) (fun c16 => B24 _ _ jw (Or.inr (Or.inr c16))) (fun c16 => ?_)
        rw [if_neg (fun hq => hq.elim (fun hq => (j_abs c13 hq)) (fun hq => hq.elim (fun hq => (j_abs c14 hq)) (fun hq => (j_absn c16 hq))))] at hE
        refine lv_aload_n hx hb dX0_alignByAnchors_64 rfl (lv_at hl 5 rfl) ?_
        refine lv_aload_n hx hb dX0_alignByAnchors_65 rfl (lv_at hl 6 rfl) ?_
        refine lv_iload hx hb dX0_alignByAnchors_66 (lv_at hl 3 rfl) ?_
        refine lv_iload hx hb dX0_alignByAnchors_68 (lv_at hl 1 rfl) ?_
        refine lv_aload_n hx hb dX0_alignByAnchors_70 rfl (lv_at hl 7 rfl) ?_
        refine lv_iload hx hb dX0_alignByAnchors_71 (lv_at hl 2 rfl) ?_
        refine lv_iload hx hb dX0_alignByAnchors_73 (lv_at hl 0 rfl) ?_
        obtain ⟨xx18, exx18, hE⟩ := j_bd hG17 hE
        try dsimp only at hE
        refine jc_vv [.ref (ad q1), .int vv6, .int vv8, .ref (ad q2), .int vv7, .int vv12] [] jc jw hA ho (by decide) rfl (c_X0_alignPart hY ho hq1 hq2 (M := mm9) exx18) sd_X0_63 rfl hl.1 (j_hR hRf hRl rfl rfl) (Nat.le_of_ble_eq_true rfl) dX0_alignByAnchors_75 (fun H locs jw => ?_)
        refine lv_aload_n hx hb dX0_alignByAnchors_78 rfl (lv_at hl 5 rfl) ?_
        refine lv_iload hx hb dX0_alignByAnchors_79 (lv_at hl 1 rfl) ?_
        refine lv_iload hx hb dX0_alignByAnchors_81 (lv_at hl 0 rfl) ?_
        obtain ⟨xx19, exx19, hE⟩ := j_lv hE
        try dsimp only at hE
        refine jc_vv [.int vv8, .int vv12] [] jc jw hA ho (by decide) rfl (c_X0_addPair hY ho (M := xx18) exx19.symm) sd_X0_80 rfl hl.1 (j_hR hRf hRl rfl rfl) (Nat.le_of_ble_eq_true rfl) dX0_alignByAnchors_83 (fun H locs jw => ?_)
        refine lv_aload_n hx hb dX0_alignByAnchors_86 rfl (lv_at hl 5 rfl) ?_
        refine lv_dup hx hb dX0_alignByAnchors_87 rfl ?_
        refine jg_0_6 jc jw ho wd_4_34 dX0_alignByAnchors_88 ?_
        refine lv_iconst (v := 1) hx hb dX0_alignByAnchors_91 (by decide) ?_
        refine lv_iadd hx hb dX0_alignByAnchors_92 ?_
        refine js_0_6 jc jw ho wd_4_34 dX0_alignByAnchors_93 (fun H locs jw => ?_)
        obtain ⟨mm20, emm20, hE⟩ := j_lv hE
        rw [← emm20] at jw
        try dsimp only at hE
        refine lv_iload hx hb dX0_alignByAnchors_96 (lv_at hl 1 rfl) ?_
        refine lv_iconst (v := 1) hx hb dX0_alignByAnchors_98 (by decide) ?_
        refine lv_iadd hx hb dX0_alignByAnchors_99 ?_
        refine lv_topi (fun vv21 evv21 => ?_)
        replace hE := j_lu hE evv21
        try dsimp only at hE
        refine lv_istore (lv' := [(4, .int vv21), (7, .int vv12), (6, .int vv8), (5, .int vv7), (3, .int vv5), (0, .ref (ad o)), (1, .ref (ad q1)), (2, .ref (ad q2))]) hx hb dX0_alignByAnchors_100 hl (by decide) rfl (fun ls hl => ?_)
        refine lv_iload hx hb dX0_alignByAnchors_102 (lv_at hl 1 rfl) ?_
        refine lv_iconst (v := 1) hx hb dX0_alignByAnchors_104 (by decide) ?_
        refine lv_iadd hx hb dX0_alignByAnchors_105 ?_
        refine lv_topi (fun vv22 evv22 => ?_)
        replace hE := j_lu hE evv22
        try dsimp only at hE
        refine lv_istore (lv' := [(5, .int vv22), (4, .int vv21), (7, .int vv12), (6, .int vv8), (3, .int vv5), (0, .ref (ad o)), (1, .ref (ad q1)), (2, .ref (ad q2))]) hx hb dX0_alignByAnchors_106 hl (by decide) rfl (fun ls hl => ?_)
        obtain ⟨vv23, evv23, hE⟩ := j_lv hE
        try dsimp only at hE
        refine lv_iinc (v := vv23) (lv' := [(3, .int vv23), (5, .int vv22), (4, .int vv21), (7, .int vv12), (6, .int vv8), (0, .ref (ad o)), (1, .ref (ad q1)), (2, .ref (ad q2))]) hx hb dX0_alignByAnchors_108 hl (k := 4) rfl (by rw [evv23]; rfl) (by decide) rfl (fun ls hl => ?_)
        exact J17 vv23 vv21 vv22 mm20  H locs ls hE jw (lv_sub hl [4, 1, 2, 0, 5, 6, 7] rfl)
  exact LP4 j_fuel vv3 (0 : Int32) (0 : Int32) (0 : Int32) xx2.2 H locs ls hE jw (lv_sub hl [0, 1, 2, 3, 4, 5, 6] rfl)
def s_X0_build (Y : JY) (M : JM) (o : Nat) (q1 : Nat) (q2 : Nat) (p3 : Int32) : Option (JM) := (s_X4_fillWith Y M (j_rf Y o 0) (-1 : Int32) (s_X4_size Y M q1)).bind fun xx2 => (s_X4_fillWith Y xx2 (j_rf Y o 1) (-1 : Int32) (s_X4_size Y xx2 q2)).bind fun xx4 => lt_ (j_up xx4 o 5 (0 : Int32)) fun mm5 => lt_ (j_up mm5 o 6 (0 : Int32)) fun mm6 => if p3 = (1 : Int32) then ((s_X0_alignByAnchors Y mm6 o q1 q2).bind fun xx8 => some xx8) else ((s_X0_alignPart Y mm6 o q1 (0 : Int32) (s_X4_size Y mm6 q1) q2 (0 : Int32) (s_X4_size Y mm6 q2)).bind fun xx9 => some xx9)
set_option maxRecDepth 100000 in
set_option maxHeartbeats 4000000 in
theorem c_X0_build {D : va_G} {Y : JY} {ty : Nat → ClassId} {ad : Nat → Nat} {sz : Nat} {l : Launch} {M : JM} (hY : j_ok Y) {o : Nat} {q1 : Nat} {q2 : Nat} {p3 : Int32} (ho : j_kd Y o = 0) (hq1 : j_kd Y q1 = 4) (hq2 : j_kd Y q2 = 4) {r : JM} (hE : s_X0_build Y M o q1 q2 p3 = some r) : JMv D Y ty ad sz l yX0_build cX0_build 4 4 114 [.ref (ad o), .ref (ad q1), .ref (ad q2), .int p3] M r := by
  refine j_ofV hY (by decide +kernel) (Nat.le_of_ble_eq_true rfl) (fun p e s m below meth c args R Q A hRf hRl hA jc jw kr ls hl => ?_)
  have hx := jc.1
  have hb := jc.2.1
  have hl : lv_has ls 4 [(0, .ref (ad o)), (1, .ref (ad q1)), (2, .ref (ad q2)), (3, .int p3)] := hl
  unfold s_X0_build at hE
  obtain ⟨G0, eG0, hG0, hE⟩ := j_F0o hE
  refine lv_aload_n hx hb dX0_build_0 rfl (lv_at hl 0 rfl) ?_
  refine jg_0_0 jc jw ho wd_4_28 dX0_build_1 ?_
  have k1 := j_sub hY ho 0 (f := 4) rfl (by decide) (by decide) (by decide)
  refine lv_iconst (v := -1) hx hb dX0_build_4 (by decide) ?_
  refine lv_aload_n hx hb dX0_build_5 rfl (lv_at hl 1 rfl) ?_
  refine jc_vi [] [.int (-1 : Int32), .ref (ad (j_rf Y o 0))] jc jw hA hq1 (by decide) rfl (c_X4_size hY hq1 (M := M) rfl) sd_X0_53 rfl hl.1 (j_hR hRf hRl rfl rfl) (Nat.le_of_ble_eq_true rfl) dX0_build_6 (fun H locs jw => ?_)
  obtain ⟨xx2, exx2, hE⟩ := j_bd hG0 hE
  try dsimp only at hE
  refine jc_vv [.int (-1 : Int32), .int (s_X4_size Y M q1)] [] jc jw hA k1 (by decide) rfl (c_X4_fillWith hY k1 (M := M) exx2) sd_X0_56 rfl hl.1 (j_hR hRf hRl rfl rfl) (Nat.le_of_ble_eq_true rfl) dX0_build_9 (fun H locs jw => ?_)
  refine lv_aload_n hx hb dX0_build_12 rfl (lv_at hl 0 rfl) ?_
  refine jg_0_1 jc jw ho wd_4_29 dX0_build_13 ?_
  have k3 := j_sub hY ho 1 (f := 4) rfl (by decide) (by decide) (by decide)
  refine lv_iconst (v := -1) hx hb dX0_build_16 (by decide) ?_
  refine lv_aload_n hx hb dX0_build_17 rfl (lv_at hl 2 rfl) ?_
  refine jc_vi [] [.int (-1 : Int32), .ref (ad (j_rf Y o 1))] jc jw hA hq2 (by decide) rfl (c_X4_size hY hq2 (M := xx2) rfl) sd_X0_53 rfl hl.1 (j_hR hRf hRl rfl rfl) (Nat.le_of_ble_eq_true rfl) dX0_build_18 (fun H locs jw => ?_)
  obtain ⟨xx4, exx4, hE⟩ := j_bd hG0 hE
  try dsimp only at hE
  refine jc_vv [.int (-1 : Int32), .int (s_X4_size Y xx2 q2)] [] jc jw hA k3 (by decide) rfl (c_X4_fillWith hY k3 (M := xx2) exx4) sd_X0_56 rfl hl.1 (j_hR hRf hRl rfl rfl) (Nat.le_of_ble_eq_true rfl) dX0_build_21 (fun H locs jw => ?_)
  refine lv_aload_n hx hb dX0_build_24 rfl (lv_at hl 0 rfl) ?_
  refine lv_iconst (v := 0) hx hb dX0_build_25 (by decide) ?_
  refine js_0_5 jc jw ho wd_4_33 dX0_build_26 (fun H locs jw => ?_)
  obtain ⟨mm5, emm5, hE⟩ := j_lv hE
  rw [← emm5] at jw
  try dsimp only at hE
  refine lv_aload_n hx hb dX0_build_29 rfl (lv_at hl 0 rfl) ?_
  refine lv_iconst (v := 0) hx hb dX0_build_30 (by decide) ?_
  refine js_0_6 jc jw ho wd_4_34 dX0_build_31 (fun H locs jw => ?_)
  obtain ⟨mm6, emm6, hE⟩ := j_lv hE
  rw [← emm6] at jw
  try dsimp only at hE
  refine lv_iload_n hx hb dX0_build_34 rfl (lv_at hl 3 rfl) ?_
  refine lv_iconst (v := 1) hx hb dX0_build_35 (by decide) ?_
  refine lv_icmp_ne (tgt := 48) hx hb dX0_build_36 (by decide) (fun c7 => ?_) (fun c7 => ?_)
  · rw [if_neg c7] at hE
    refine lv_aload_n hx hb dX0_build_48 rfl (lv_at hl 0 rfl) ?_
    refine lv_aload_n hx hb dX0_build_49 rfl (lv_at hl 1 rfl) ?_
    refine lv_iconst (v := 0) hx hb dX0_build_50 (by decide) ?_
    refine lv_aload_n hx hb dX0_build_51 rfl (lv_at hl 1 rfl) ?_
    refine jc_vi [] [.int (0 : Int32), .ref (ad q1), .ref (ad o)] jc jw hA hq1 (by decide) rfl (c_X4_size hY hq1 (M := mm6) rfl) sd_X0_53 rfl hl.1 (j_hR hRf hRl rfl rfl) (Nat.le_of_ble_eq_true rfl) dX0_build_52 (fun H locs jw => ?_)
    refine lv_aload_n hx hb dX0_build_55 rfl (lv_at hl 2 rfl) ?_
    refine lv_iconst (v := 0) hx hb dX0_build_56 (by decide) ?_
    refine lv_aload_n hx hb dX0_build_57 rfl (lv_at hl 2 rfl) ?_
    refine jc_vi [] [.int (0 : Int32), .ref (ad q2), .int (s_X4_size Y mm6 q1), .int (0 : Int32), .ref (ad q1), .ref (ad o)] jc jw hA hq2 (by decide) rfl (c_X4_size hY hq2 (M := mm6) rfl) sd_X0_53 rfl hl.1 (j_hR hRf hRl rfl rfl) (Nat.le_of_ble_eq_true rfl) dX0_build_58 (fun H locs jw => ?_)
    obtain ⟨xx9, exx9, hE⟩ := j_bd hG0 hE
    try dsimp only at hE
    refine jc_vv [.ref (ad q1), .int (0 : Int32), .int (s_X4_size Y mm6 q1), .ref (ad q2), .int (0 : Int32), .int (s_X4_size Y mm6 q2)] [] jc jw hA ho (by decide) rfl (c_X0_alignPart hY ho hq1 hq2 (M := mm6) exx9) sd_X0_63 rfl hl.1 (j_hR hRf hRl rfl rfl) (Nat.le_of_ble_eq_true rfl) dX0_build_61 (fun H locs jw => ?_)
    exact kr _ _ _ _ _ (Option.some.inj (j_ret eG0 hE)) jw dX0_build_64
  · rw [if_pos c7] at hE
    refine lv_aload_n hx hb dX0_build_39 rfl (lv_at hl 0 rfl) ?_
    refine lv_aload_n hx hb dX0_build_40 rfl (lv_at hl 1 rfl) ?_
    refine lv_aload_n hx hb dX0_build_41 rfl (lv_at hl 2 rfl) ?_
    obtain ⟨xx8, exx8, hE⟩ := j_bd hG0 hE
    try dsimp only at hE
    refine jc_vv [.ref (ad q1), .ref (ad q2)] [] jc jw hA ho (by decide) rfl (c_X0_alignByAnchors hY ho hq1 hq2 (M := mm6) exx8) sd_X0_59 rfl hl.1 (j_hR hRf hRl rfl rfl) (Nat.le_of_ble_eq_true rfl) dX0_build_42 (fun H locs jw => ?_)
    refine lv_goto (tgt := 64) hx hb dX0_build_45 (by decide) ?_
    exact kr _ _ _ _ _ (Option.some.inj (j_ret eG0 hE)) jw dX0_build_64

def s_L_append (Y : JY) (M : JM) (q1 : Nat) (p2 : Int32) (p3 : Int32) (q4 : Nat) : Option (Int32 × JM) := (s_X9_append Y M q1 p2 p3).bind fun xx1 => match xx1 with | Sum.inl txx1 => (if txx1.1 = 0 then (some ((1 : Int32), txx1.2)) else (if txx1.1 = 1 then (some ((2 : Int32), txx1.2)) else (none))) | Sum.inr uxx1 => (if j_g (0 : Int32) (j_ln Y q4) then (lt_ (j_up uxx1.2 q4 (0 : Int32).toNatClampNeg uxx1.1) fun mm5 => some ((0 : Int32), mm5)) else none)
set_option maxRecDepth 100000 in
set_option maxHeartbeats 4000000 in
theorem c_L_append {D : va_G} {Y : JY} {ty : Nat → ClassId} {ad : Nat → Nat} {sz : Nat} {l : Launch} {M : JM} (hl9 : l.stackTraces = false) (hY : j_ok Y) {q1 : Nat} {p2 : Int32} {p3 : Int32} {q4 : Nat} (hq1 : j_kd Y q1 = 9) (hq4 : j_kd Y q4 = 104) {r : Int32 × JM} (hE : s_L_append Y M q1 p2 p3 q4 = some r) : JMw D Y ty ad sz l yL_append cL_append 5 [(0, 10, 13, 13), (0, 10, 17, 15)] 8 134 3 18 [.ref (ad q1), .int p2, .int p3, .ref (ad q4)] M r.1 r.2 := by
  refine j_ofw hY (by decide +kernel) (Nat.le_of_ble_eq_true rfl) rfl (fun p e s m below meth c args R Q A hRf hRl hRc hRs hA jc jx htab jw kr ls hl => ?_)
  have hx := jc.1
  have hb := jc.2.1
  have hl : lv_has ls 5 [(0, .ref (ad q1)), (1, .int p2), (2, .int p3), (3, .ref (ad q4))] := hl
  unfold s_L_append at hE
  obtain ⟨G0, eG0, hG0, hE⟩ := j_F0o hE
  refine lv_aload_n hx hb dL_append_0 rfl (lv_at hl 3 rfl) ?_
  refine lv_iconst (v := 0) hx hb dL_append_1 (by decide) ?_
  refine lv_aload_n hx hb dL_append_2 rfl (lv_at hl 0 rfl) ?_
  refine lv_iload_n hx hb dL_append_3 rfl (lv_at hl 1 rfl) ?_
  refine lv_iload_n hx hb dL_append_4 rfl (lv_at hl 2 rfl) ?_
  obtain ⟨xx1, exx1, hE⟩ := j_bd hG0 hE
  try dsimp only at hE
  refine jt_vi [.int p2, .int p3] [.int (0 : Int32), .ref (ad q4)] jc jx jw hA hq1 (by decide) rfl (c_X9_append hl9 hY hq1 (M := M) exx1) sd_L_7 rfl hl.1 (j_hRT hRf hRl hRc hRs rfl rfl rfl rfl) (Nat.le_of_ble_eq_true rfl) dL_append_5 (fun H locs txx1 ce q9 ht jw hce hcv hcl => ?_) (fun H locs uxx1 hu jw => ?_)
  · subst ht
    try dsimp only at hE
    rcases Classical.em (txx1.1 = 0) with t2 | t2
    · rw [if_pos t2] at hE
      rw [t2] at hcl
      refine jw_catch (k := 0) [] (0, 10, 13, 13) [(0, 10, 17, 15)] jc jx htab rfl (by decide) (fun z hz => absurd hz List.not_mem_nil) (by decide) (by decide) wd_2_124 hce hcv hcl ?_
      refine lv_astore (lv' := [(4, .ref q9), (0, .ref (ad q1)), (1, .int p2), (2, .int p3), (3, .ref (ad q4))]) hx hb dL_append_13 hl (by decide) rfl (fun ls hl => ?_)
      refine lv_iconst (v := 1) hx hb dL_append_15 (by decide) ?_
      exact kr _ _ _ _ _ _ _ _ (congrArg Prod.fst (Option.some.inj (j_ret eG0 hE))) (congrArg Prod.snd (Option.some.inj (j_ret eG0 hE))) jw (j_cs hRc hRs rfl rfl) dL_append_16
    rw [if_neg t2] at hE
    rcases Classical.em (txx1.1 = 1) with t3 | t3
    · rw [if_pos t3] at hE
      rw [t3] at hcl
      refine jw_catch (k := 1) [(0, 10, 13, 13)] (0, 10, 17, 15) [] jc jx htab rfl (by decide) (List.forall_mem_cons.mpr ⟨⟨by decide, 0, by decide, by decide, wd_2_124⟩, (fun z hz => absurd hz List.not_mem_nil)⟩) (by decide) (by decide) wd_2_125 hce hcv hcl ?_
      refine lv_astore (lv' := [(4, .ref q9), (0, .ref (ad q1)), (1, .int p2), (2, .int p3), (3, .ref (ad q4))]) hx hb dL_append_17 hl (by decide) rfl (fun ls hl => ?_)
      refine lv_iconst (v := 2) hx hb dL_append_19 (by decide) ?_
      exact kr _ _ _ _ _ _ _ _ (congrArg Prod.fst (Option.some.inj (j_ret eG0 hE))) (congrArg Prod.snd (Option.some.inj (j_ret eG0 hE))) jw (j_cs hRc hRs rfl rfl) dL_append_20
    rw [if_neg t3] at hE
    exact absurd hE (hG0 _)
  subst hu
  try dsimp only at hE
  refine lv_i2l (v := Int32.toInt64 uxx1.1) hx hb dL_append_8 rfl ?_
  rcases Classical.em (j_g (0 : Int32) (j_ln Y q4)) with g4 | g4
  case inr => rw [if_neg g4] at hE; exact absurd hE (hG0 _)
  rw [if_pos g4] at hE
  refine jr_last jc jw hq4 (j_g_in g4) dL_append_9 (fun H locs jw => ?_)
  obtain ⟨mm5, emm5, hE⟩ := j_lv hE
  rw [← emm5] at jw
  try dsimp only at hE
  refine lv_goto (tgt := 21) hx hb dL_append_10 (by decide) ?_
  refine lv_iconst (v := 0) hx hb dL_append_21 (by decide) ?_
  exact kr _ _ _ _ _ _ _ _ (congrArg Prod.fst (Option.some.inj (j_ret eG0 hE))) (congrArg Prod.snd (Option.some.inj (j_ret eG0 hE))) jw (j_cs hRc hRs rfl rfl) dL_append_22
def s_L_insert (Y : JY) (M : JM) (q1 : Nat) (p2 : Int32) (p3 : Int32) (p4 : Int32) (q5 : Nat) : Option (Int32 × JM) := (s_X9_insert Y M q1 p2 p3 p4).bind fun xx1 => match xx1 with | Sum.inl txx1 => (if txx1.1 = 0 then (some ((1 : Int32), txx1.2)) else (if txx1.1 = 1 then (some ((2 : Int32), txx1.2)) else (if txx1.1 = 2 then (some ((3 : Int32), txx1.2)) else (none)))) | Sum.inr uxx1 => (if j_g (0 : Int32) (j_ln Y q5) then (lt_ (j_up uxx1.2 q5 (0 : Int32).toNatClampNeg uxx1.1) fun mm6 => some ((0 : Int32), mm6)) else none)
set_option maxRecDepth 100000 in
set_option maxHeartbeats 4000000 in
theorem c_L_insert {D : va_G} {Y : JY} {ty : Nat → ClassId} {ad : Nat → Nat} {sz : Nat} {l : Launch} {M : JM} (hl9 : l.stackTraces = false) (hY : j_ok Y) {q1 : Nat} {p2 : Int32} {p3 : Int32} {p4 : Int32} {q5 : Nat} (hq1 : j_kd Y q1 = 9) (hq5 : j_kd Y q5 = 104) {r : Int32 × JM} (hE : s_L_insert Y M q1 p2 p3 p4 q5 = some r) : JMw D Y ty ad sz l yL_insert cL_insert 6 [(0, 12, 15, 13), (0, 12, 19, 15), (0, 12, 23, 21)] 8 135 4 24 [.ref (ad q1), .int p2, .int p3, .int p4, .ref (ad q5)] M r.1 r.2 := by
  refine j_ofw hY (by decide +kernel) (Nat.le_of_ble_eq_true rfl) rfl (fun p e s m below meth c args R Q A hRf hRl hRc hRs hA jc jx htab jw kr ls hl => ?_)
  have hx := jc.1
  have hb := jc.2.1
  have hl : lv_has ls 6 [(0, .ref (ad q1)), (1, .int p2), (2, .int p3), (3, .int p4), (4, .ref (ad q5))] := hl
  unfold s_L_insert at hE
  obtain ⟨G0, eG0, hG0, hE⟩ := j_F0o hE
  refine lv_aload hx hb dL_insert_0 (lv_at hl 4 rfl) ?_
  refine lv_iconst (v := 0) hx hb dL_insert_2 (by decide) ?_
  refine lv_aload_n hx hb dL_insert_3 rfl (lv_at hl 0 rfl) ?_
  refine lv_iload_n hx hb dL_insert_4 rfl (lv_at hl 1 rfl) ?_
  refine lv_iload_n hx hb dL_insert_5 rfl (lv_at hl 2 rfl) ?_
  refine lv_iload_n hx hb dL_insert_6 rfl (lv_at hl 3 rfl) ?_
  obtain ⟨xx1, exx1, hE⟩ := j_bd hG0 hE
  try dsimp only at hE
  refine jt_vi [.int p2, .int p3, .int p4] [.int (0 : Int32), .ref (ad q5)] jc jx jw hA hq1 (by decide) rfl (c_X9_insert hl9 hY hq1 (M := M) exx1) sd_L_17 rfl hl.1 (j_hRT hRf hRl hRc hRs rfl rfl rfl rfl) (Nat.le_of_ble_eq_true rfl) dL_insert_7 (fun H locs txx1 ce q9 ht jw hce hcv hcl => ?_) (fun H locs uxx1 hu jw => ?_)
  · subst ht
    try dsimp only at hE
    rcases Classical.em (txx1.1 = 0) with t2 | t2
    · rw [if_pos t2] at hE
      rw [t2] at hcl
      refine jw_catch (k := 0) [] (0, 12, 15, 13) [(0, 12, 19, 15), (0, 12, 23, 21)] jc jx htab rfl (by decide) (fun z hz => absurd hz List.not_mem_nil) (by decide) (by decide) wd_2_124 hce hcv hcl ?_
      refine lv_astore (lv' := [(5, .ref q9), (0, .ref (ad q1)), (1, .int p2), (2, .int p3), (3, .int p4), (4, .ref (ad q5))]) hx hb dL_insert_15 hl (by decide) rfl (fun ls hl => ?_)
      refine lv_iconst (v := 1) hx hb dL_insert_17 (by decide) ?_
      exact kr _ _ _ _ _ _ _ _ (congrArg Prod.fst (Option.some.inj (j_ret eG0 hE))) (congrArg Prod.snd (Option.some.inj (j_ret eG0 hE))) jw (j_cs hRc hRs rfl rfl) dL_insert_18
    rw [if_neg t2] at hE
    rcases Classical.em (txx1.1 = 1) with t3 | t3
    · rw [if_pos t3] at hE
      rw [t3] at hcl
      refine jw_catch (k := 1) [(0, 12, 15, 13)] (0, 12, 19, 15) [(0, 12, 23, 21)] jc jx htab rfl (by decide) (List.forall_mem_cons.mpr ⟨⟨by decide, 0, by decide, by decide, wd_2_124⟩, (fun z hz => absurd hz List.not_mem_nil)⟩) (by decide) (by decide) wd_2_125 hce hcv hcl ?_
      refine lv_astore (lv' := [(5, .ref q9), (0, .ref (ad q1)), (1, .int p2), (2, .int p3), (3, .int p4), (4, .ref (ad q5))]) hx hb dL_insert_19 hl (by decide) rfl (fun ls hl => ?_)
      refine lv_iconst (v := 2) hx hb dL_insert_21 (by decide) ?_
      exact kr _ _ _ _ _ _ _ _ (congrArg Prod.fst (Option.some.inj (j_ret eG0 hE))) (congrArg Prod.snd (Option.some.inj (j_ret eG0 hE))) jw (j_cs hRc hRs rfl rfl) dL_insert_22
    rw [if_neg t3] at hE
    rcases Classical.em (txx1.1 = 2) with t4 | t4
    · rw [if_pos t4] at hE
      rw [t4] at hcl
      refine jw_catch (k := 2) [(0, 12, 15, 13), (0, 12, 19, 15)] (0, 12, 23, 21) [] jc jx htab rfl (by decide) (List.forall_mem_cons.mpr ⟨⟨by decide, 0, by decide, by decide, wd_2_124⟩, (List.forall_mem_cons.mpr ⟨⟨by decide, 1, by decide, by decide, wd_2_125⟩, (fun z hz => absurd hz List.not_mem_nil)⟩)⟩) (by decide) (by decide) wd_3_5 hce hcv hcl ?_
      refine lv_astore (lv' := [(5, .ref q9), (0, .ref (ad q1)), (1, .int p2), (2, .int p3), (3, .int p4), (4, .ref (ad q5))]) hx hb dL_insert_23 hl (by decide) rfl (fun ls hl => ?_)
      refine lv_iconst (v := 3) hx hb dL_insert_25 (by decide) ?_
      exact kr _ _ _ _ _ _ _ _ (congrArg Prod.fst (Option.some.inj (j_ret eG0 hE))) (congrArg Prod.snd (Option.some.inj (j_ret eG0 hE))) jw (j_cs hRc hRs rfl rfl) dL_insert_26
    rw [if_neg t4] at hE
    exact absurd hE (hG0 _)
  subst hu
  try dsimp only at hE
  refine lv_i2l (v := Int32.toInt64 uxx1.1) hx hb dL_insert_10 rfl ?_
  rcases Classical.em (j_g (0 : Int32) (j_ln Y q5)) with g5 | g5
  case inr => rw [if_neg g5] at hE; exact absurd hE (hG0 _)
  rw [if_pos g5] at hE
  refine jr_last jc jw hq5 (j_g_in g5) dL_insert_11 (fun H locs jw => ?_)
  obtain ⟨mm6, emm6, hE⟩ := j_lv hE
  rw [← emm6] at jw
  try dsimp only at hE
  refine lv_goto (tgt := 27) hx hb dL_insert_12 (by decide) ?_
  refine lv_iconst (v := 0) hx hb dL_insert_27 (by decide) ?_
  exact kr _ _ _ _ _ _ _ _ (congrArg Prod.fst (Option.some.inj (j_ret eG0 hE))) (congrArg Prod.snd (Option.some.inj (j_ret eG0 hE))) jw (j_cs hRc hRs rfl rfl) dL_insert_28
def s_L_delete (Y : JY) (M : JM) (q1 : Nat) (p2 : Int32) (p3 : Int32) (q4 : Nat) : Option (Int32 × JM) := (s_X9_delete Y M q1 p2 p3).bind fun xx1 => match xx1 with | Sum.inl txx1 => (if txx1.1 = 0 then (some ((1 : Int32), txx1.2)) else (if txx1.1 = 2 then (some ((2 : Int32), txx1.2)) else (none))) | Sum.inr uxx1 => (if j_g (0 : Int32) (j_ln Y q4) then (lt_ (j_up uxx1.2 q4 (0 : Int32).toNatClampNeg uxx1.1) fun mm5 => some ((0 : Int32), mm5)) else none)
set_option maxRecDepth 100000 in
set_option maxHeartbeats 4000000 in
theorem c_L_delete {D : va_G} {Y : JY} {ty : Nat → ClassId} {ad : Nat → Nat} {sz : Nat} {l : Launch} {M : JM} (hl9 : l.stackTraces = false) (hY : j_ok Y) {q1 : Nat} {p2 : Int32} {p3 : Int32} {q4 : Nat} (hq1 : j_kd Y q1 = 9) (hq4 : j_kd Y q4 = 104) {r : Int32 × JM} (hE : s_L_delete Y M q1 p2 p3 q4 = some r) : JMw D Y ty ad sz l yL_delete cL_delete 5 [(0, 10, 13, 13), (0, 10, 17, 21)] 8 134 2 12 [.ref (ad q1), .int p2, .int p3, .ref (ad q4)] M r.1 r.2 := by
  refine j_ofw hY (by decide +kernel) (Nat.le_of_ble_eq_true rfl) rfl (fun p e s m below meth c args R Q A hRf hRl hRc hRs hA jc jx htab jw kr ls hl => ?_)
  have hx := jc.1
  have hb := jc.2.1
  have hl : lv_has ls 5 [(0, .ref (ad q1)), (1, .int p2), (2, .int p3), (3, .ref (ad q4))] := hl
  unfold s_L_delete at hE
  obtain ⟨G0, eG0, hG0, hE⟩ := j_F0o hE
  refine lv_aload_n hx hb dL_delete_0 rfl (lv_at hl 3 rfl) ?_
  refine lv_iconst (v := 0) hx hb dL_delete_1 (by decide) ?_
  refine lv_aload_n hx hb dL_delete_2 rfl (lv_at hl 0 rfl) ?_
  refine lv_iload_n hx hb dL_delete_3 rfl (lv_at hl 1 rfl) ?_
  refine lv_iload_n hx hb dL_delete_4 rfl (lv_at hl 2 rfl) ?_
  obtain ⟨xx1, exx1, hE⟩ := j_bd hG0 hE
  try dsimp only at hE
  refine jt_vi [.int p2, .int p3] [.int (0 : Int32), .ref (ad q4)] jc jx jw hA hq1 (by decide) rfl (c_X9_delete hl9 hY hq1 (M := M) exx1) sd_L_23 rfl hl.1 (j_hRT hRf hRl hRc hRs rfl rfl rfl rfl) (Nat.le_of_ble_eq_true rfl) dL_delete_5 (fun H locs txx1 ce q9 ht jw hce hcv hcl => ?_) (fun H locs uxx1 hu jw => ?_)
  · subst ht
    try dsimp only at hE
    rcases Classical.em (txx1.1 = 0) with t2 | t2
    · rw [if_pos t2] at hE
      rw [t2] at hcl
      refine jw_catch (k := 0) [] (0, 10, 13, 13) [(0, 10, 17, 21)] jc jx htab rfl (by decide) (fun z hz => absurd hz List.not_mem_nil) (by decide) (by decide) wd_2_124 hce hcv hcl ?_
      refine lv_astore (lv' := [(4, .ref q9), (0, .ref (ad q1)), (1, .int p2), (2, .int p3), (3, .ref (ad q4))]) hx hb dL_delete_13 hl (by decide) rfl (fun ls hl => ?_)
      refine lv_iconst (v := 1) hx hb dL_delete_15 (by decide) ?_
      exact kr _ _ _ _ _ _ _ _ (congrArg Prod.fst (Option.some.inj (j_ret eG0 hE))) (congrArg Prod.snd (Option.some.inj (j_ret eG0 hE))) jw (j_cs hRc hRs rfl rfl) dL_delete_16
    rw [if_neg t2] at hE
    rcases Classical.em (txx1.1 = 2) with t3 | t3
    · rw [if_pos t3] at hE
      rw [t3] at hcl
      refine jw_catch (k := 2) [(0, 10, 13, 13)] (0, 10, 17, 21) [] jc jx htab rfl (by decide) (List.forall_mem_cons.mpr ⟨⟨by decide, 0, by decide, by decide, wd_2_124⟩, (fun z hz => absurd hz List.not_mem_nil)⟩) (by decide) (by decide) wd_3_5 hce hcv hcl ?_
      refine lv_astore (lv' := [(4, .ref q9), (0, .ref (ad q1)), (1, .int p2), (2, .int p3), (3, .ref (ad q4))]) hx hb dL_delete_17 hl (by decide) rfl (fun ls hl => ?_)
      refine lv_iconst (v := 2) hx hb dL_delete_19 (by decide) ?_
      exact kr _ _ _ _ _ _ _ _ (congrArg Prod.fst (Option.some.inj (j_ret eG0 hE))) (congrArg Prod.snd (Option.some.inj (j_ret eG0 hE))) jw (j_cs hRc hRs rfl rfl) dL_delete_20
    rw [if_neg t3] at hE
    exact absurd hE (hG0 _)
  subst hu
  try dsimp only at hE
  refine lv_i2l (v := Int32.toInt64 uxx1.1) hx hb dL_delete_8 rfl ?_
  rcases Classical.em (j_g (0 : Int32) (j_ln Y q4)) with g4 | g4
  case inr => rw [if_neg g4] at hE; exact absurd hE (hG0 _)
  rw [if_pos g4] at hE
  refine jr_last jc jw hq4 (j_g_in g4) dL_delete_9 (fun H locs jw => ?_)
  obtain ⟨mm5, emm5, hE⟩ := j_lv hE
  rw [← emm5] at jw
  try dsimp only at hE
  refine lv_goto (tgt := 21) hx hb dL_delete_10 (by decide) ?_
  refine lv_iconst (v := 0) hx hb dL_delete_21 (by decide) ?_
  exact kr _ _ _ _ _ _ _ _ (congrArg Prod.fst (Option.some.inj (j_ret eG0 hE))) (congrArg Prod.snd (Option.some.inj (j_ret eG0 hE))) jw (j_cs hRc hRs rfl rfl) dL_delete_22
def s_L_length (Y : JY) (M : JM) (q1 : Nat) (p2 : Int32) (q3 : Nat) : Option (Int32 × JM) := (s_X9_length Y M q1 p2).bind fun xx1 => match xx1 with | Sum.inl txx1 => (if txx1.1 = 0 then (some ((1 : Int32), txx1.2)) else (none)) | Sum.inr uxx1 => (if j_g (0 : Int32) (j_ln Y q3) then (lt_ (j_up uxx1.2 q3 (0 : Int32).toNatClampNeg uxx1.1) fun mm4 => some ((0 : Int32), mm4)) else none)
set_option maxRecDepth 100000 in
set_option maxHeartbeats 4000000 in
theorem c_L_length {D : va_G} {Y : JY} {ty : Nat → ClassId} {ad : Nat → Nat} {sz : Nat} {l : Launch} {M : JM} (hl9 : l.stackTraces = false) (hY : j_ok Y) {q1 : Nat} {p2 : Int32} {q3 : Nat} (hq1 : j_kd Y q1 = 9) (hq3 : j_kd Y q3 = 104) {r : Int32 × JM} (hE : s_L_length Y M q1 p2 q3 = some r) : JMw D Y ty ad sz l yL_length cL_length 4 [(0, 9, 12, 13)] 8 132 1 6 [.ref (ad q1), .int p2, .ref (ad q3)] M r.1 r.2 := by
  refine j_ofw hY (by decide +kernel) (Nat.le_of_ble_eq_true rfl) rfl (fun p e s m below meth c args R Q A hRf hRl hRc hRs hA jc jx htab jw kr ls hl => ?_)
  have hx := jc.1
  have hb := jc.2.1
  have hl : lv_has ls 4 [(0, .ref (ad q1)), (1, .int p2), (2, .ref (ad q3))] := hl
  unfold s_L_length at hE
  obtain ⟨G0, eG0, hG0, hE⟩ := j_F0o hE
  refine lv_aload_n hx hb dL_length_0 rfl (lv_at hl 2 rfl) ?_
  refine lv_iconst (v := 0) hx hb dL_length_1 (by decide) ?_
  refine lv_aload_n hx hb dL_length_2 rfl (lv_at hl 0 rfl) ?_
  refine lv_iload_n hx hb dL_length_3 rfl (lv_at hl 1 rfl) ?_
  obtain ⟨xx1, exx1, hE⟩ := j_bd hG0 hE
  try dsimp only at hE
  refine jt_vi [.int p2] [.int (0 : Int32), .ref (ad q3)] jc jx jw hA hq1 (by decide) rfl (c_X9_length hl9 hY hq1 (M := M) exx1) sd_L_26 rfl hl.1 (j_hRT hRf hRl hRc hRs rfl rfl rfl rfl) (Nat.le_of_ble_eq_true rfl) dL_length_4 (fun H locs txx1 ce q9 ht jw hce hcv hcl => ?_) (fun H locs uxx1 hu jw => ?_)
  · subst ht
    try dsimp only at hE
    rcases Classical.em (txx1.1 = 0) with t2 | t2
    · rw [if_pos t2] at hE
      rw [t2] at hcl
      refine jw_catch (k := 0) [] (0, 9, 12, 13) [] jc jx htab rfl (by decide) (fun z hz => absurd hz List.not_mem_nil) (by decide) (by decide) wd_2_124 hce hcv hcl ?_
      refine lv_astore_n (lv' := [(3, .ref q9), (0, .ref (ad q1)), (1, .int p2), (2, .ref (ad q3))]) hx hb dL_length_12 rfl hl (by decide) rfl (fun ls hl => ?_)
      refine lv_iconst (v := 1) hx hb dL_length_13 (by decide) ?_
      exact kr _ _ _ _ _ _ _ _ (congrArg Prod.fst (Option.some.inj (j_ret eG0 hE))) (congrArg Prod.snd (Option.some.inj (j_ret eG0 hE))) jw (j_cs hRc hRs rfl rfl) dL_length_14
    rw [if_neg t2] at hE
    exact absurd hE (hG0 _)
  subst hu
  try dsimp only at hE
  refine lv_i2l (v := Int32.toInt64 uxx1.1) hx hb dL_length_7 rfl ?_
  rcases Classical.em (j_g (0 : Int32) (j_ln Y q3)) with g3 | g3
  case inr => rw [if_neg g3] at hE; exact absurd hE (hG0 _)
  rw [if_pos g3] at hE
  refine jr_last jc jw hq3 (j_g_in g3) dL_length_8 (fun H locs jw => ?_)
  obtain ⟨mm4, emm4, hE⟩ := j_lv hE
  rw [← emm4] at jw
  try dsimp only at hE
  refine lv_goto (tgt := 15) hx hb dL_length_9 (by decide) ?_
  refine lv_iconst (v := 0) hx hb dL_length_15 (by decide) ?_
  exact kr _ _ _ _ _ _ _ _ (congrArg Prod.fst (Option.some.inj (j_ret eG0 hE))) (congrArg Prod.snd (Option.some.inj (j_ret eG0 hE))) jw (j_cs hRc hRs rfl rfl) dL_length_16
def s_L_line (Y : JY) (M : JM) (q1 : Nat) (p2 : Int32) (p3 : Int32) (q4 : Nat) : Option (Int32 × JM) := (s_X9_line Y M q1 p2 p3).bind fun xx1 => match xx1 with | Sum.inl txx1 => (if txx1.1 = 0 then (some ((1 : Int32), txx1.2)) else (if txx1.1 = 2 then (some ((2 : Int32), txx1.2)) else (none))) | Sum.inr uxx1 => (if j_g (0 : Int32) (j_ln Y q4) then (lt_ (j_up uxx1.2 q4 (0 : Int32).toNatClampNeg uxx1.1) fun mm5 => some ((0 : Int32), mm5)) else none)
set_option maxRecDepth 100000 in
set_option maxHeartbeats 4000000 in
theorem c_L_line {D : va_G} {Y : JY} {ty : Nat → ClassId} {ad : Nat → Nat} {sz : Nat} {l : Launch} {M : JM} (hl9 : l.stackTraces = false) (hY : j_ok Y) {q1 : Nat} {p2 : Int32} {p3 : Int32} {q4 : Nat} (hq1 : j_kd Y q1 = 9) (hq4 : j_kd Y q4 = 104) {r : Int32 × JM} (hE : s_L_line Y M q1 p2 p3 q4 = some r) : JMw D Y ty ad sz l yL_line cL_line 5 [(0, 10, 13, 13), (0, 10, 17, 21)] 8 134 2 12 [.ref (ad q1), .int p2, .int p3, .ref (ad q4)] M r.1 r.2 := by
  refine j_ofw hY (by decide +kernel) (Nat.le_of_ble_eq_true rfl) rfl (fun p e s m below meth c args R Q A hRf hRl hRc hRs hA jc jx htab jw kr ls hl => ?_)
  have hx := jc.1
  have hb := jc.2.1
  have hl : lv_has ls 5 [(0, .ref (ad q1)), (1, .int p2), (2, .int p3), (3, .ref (ad q4))] := hl
  unfold s_L_line at hE
  obtain ⟨G0, eG0, hG0, hE⟩ := j_F0o hE
  refine lv_aload_n hx hb dL_line_0 rfl (lv_at hl 3 rfl) ?_
  refine lv_iconst (v := 0) hx hb dL_line_1 (by decide) ?_
  refine lv_aload_n hx hb dL_line_2 rfl (lv_at hl 0 rfl) ?_
  refine lv_iload_n hx hb dL_line_3 rfl (lv_at hl 1 rfl) ?_
  refine lv_iload_n hx hb dL_line_4 rfl (lv_at hl 2 rfl) ?_
  obtain ⟨xx1, exx1, hE⟩ := j_bd hG0 hE
  try dsimp only at hE
  refine jt_vi [.int p2, .int p3] [.int (0 : Int32), .ref (ad q4)] jc jx jw hA hq1 (by decide) rfl (c_X9_line hl9 hY hq1 (M := M) exx1) sd_L_30 rfl hl.1 (j_hRT hRf hRl hRc hRs rfl rfl rfl rfl) (Nat.le_of_ble_eq_true rfl) dL_line_5 (fun H locs txx1 ce q9 ht jw hce hcv hcl => ?_) (fun H locs uxx1 hu jw => ?_)
  · subst ht
    try dsimp only at hE
    rcases Classical.em (txx1.1 = 0) with t2 | t2
    · rw [if_pos t2] at hE
      rw [t2] at hcl
      refine jw_catch (k := 0) [] (0, 10, 13, 13) [(0, 10, 17, 21)] jc jx htab rfl (by decide) (fun z hz => absurd hz List.not_mem_nil) (by decide) (by decide) wd_2_124 hce hcv hcl ?_
      refine lv_astore (lv' := [(4, .ref q9), (0, .ref (ad q1)), (1, .int p2), (2, .int p3), (3, .ref (ad q4))]) hx hb dL_line_13 hl (by decide) rfl (fun ls hl => ?_)
      refine lv_iconst (v := 1) hx hb dL_line_15 (by decide) ?_
      exact kr _ _ _ _ _ _ _ _ (congrArg Prod.fst (Option.some.inj (j_ret eG0 hE))) (congrArg Prod.snd (Option.some.inj (j_ret eG0 hE))) jw (j_cs hRc hRs rfl rfl) dL_line_16
    rw [if_neg t2] at hE
    rcases Classical.em (txx1.1 = 2) with t3 | t3
    · rw [if_pos t3] at hE
      rw [t3] at hcl
      refine jw_catch (k := 2) [(0, 10, 13, 13)] (0, 10, 17, 21) [] jc jx htab rfl (by decide) (List.forall_mem_cons.mpr ⟨⟨by decide, 0, by decide, by decide, wd_2_124⟩, (fun z hz => absurd hz List.not_mem_nil)⟩) (by decide) (by decide) wd_3_5 hce hcv hcl ?_
      refine lv_astore (lv' := [(4, .ref q9), (0, .ref (ad q1)), (1, .int p2), (2, .int p3), (3, .ref (ad q4))]) hx hb dL_line_17 hl (by decide) rfl (fun ls hl => ?_)
      refine lv_iconst (v := 2) hx hb dL_line_19 (by decide) ?_
      exact kr _ _ _ _ _ _ _ _ (congrArg Prod.fst (Option.some.inj (j_ret eG0 hE))) (congrArg Prod.snd (Option.some.inj (j_ret eG0 hE))) jw (j_cs hRc hRs rfl rfl) dL_line_20
    rw [if_neg t3] at hE
    exact absurd hE (hG0 _)
  subst hu
  try dsimp only at hE
  refine lv_i2l (v := Int32.toInt64 uxx1.1) hx hb dL_line_8 rfl ?_
  rcases Classical.em (j_g (0 : Int32) (j_ln Y q4)) with g4 | g4
  case inr => rw [if_neg g4] at hE; exact absurd hE (hG0 _)
  rw [if_pos g4] at hE
  refine jr_last jc jw hq4 (j_g_in g4) dL_line_9 (fun H locs jw => ?_)
  obtain ⟨mm5, emm5, hE⟩ := j_lv hE
  rw [← emm5] at jw
  try dsimp only at hE
  refine lv_goto (tgt := 21) hx hb dL_line_10 (by decide) ?_
  refine lv_iconst (v := 0) hx hb dL_line_21 (by decide) ?_
  exact kr _ _ _ _ _ _ _ _ (congrArg Prod.fst (Option.some.inj (j_ret eG0 hE))) (congrArg Prod.snd (Option.some.inj (j_ret eG0 hE))) jw (j_cs hRc hRs rfl rfl) dL_line_22
def s_L_copy (Y : JY) (M : JM) (q1 : Nat) (p2 : Int32) (p3 : Int32) (q4 : Nat) : Option (Int32 × JM) := (s_X9_copy Y M q1 p2 p3).bind fun xx1 => match xx1 with | Sum.inl txx1 => (if txx1.1 = 0 then (some ((1 : Int32), txx1.2)) else (none)) | Sum.inr uxx1 => (if j_g (0 : Int32) (j_ln Y q4) then (lt_ (j_up uxx1.2 q4 (0 : Int32).toNatClampNeg uxx1.1) fun mm4 => some ((0 : Int32), mm4)) else none)
set_option maxRecDepth 100000 in
set_option maxHeartbeats 4000000 in
theorem c_L_copy {D : va_G} {Y : JY} {ty : Nat → ClassId} {ad : Nat → Nat} {sz : Nat} {l : Launch} {M : JM} (hl9 : l.stackTraces = false) (hY : j_ok Y) {q1 : Nat} {p2 : Int32} {p3 : Int32} {q4 : Nat} (hq1 : j_kd Y q1 = 9) (hq4 : j_kd Y q4 = 104) {r : Int32 × JM} (hE : s_L_copy Y M q1 p2 p3 q4 = some r) : JMw D Y ty ad sz l yL_copy cL_copy 5 [(0, 10, 13, 13)] 8 134 2 12 [.ref (ad q1), .int p2, .int p3, .ref (ad q4)] M r.1 r.2 := by
  refine j_ofw hY (by decide +kernel) (Nat.le_of_ble_eq_true rfl) rfl (fun p e s m below meth c args R Q A hRf hRl hRc hRs hA jc jx htab jw kr ls hl => ?_)
  have hx := jc.1
  have hb := jc.2.1
  have hl : lv_has ls 5 [(0, .ref (ad q1)), (1, .int p2), (2, .int p3), (3, .ref (ad q4))] := hl
  unfold s_L_copy at hE
  obtain ⟨G0, eG0, hG0, hE⟩ := j_F0o hE
  refine lv_aload_n hx hb dL_copy_0 rfl (lv_at hl 3 rfl) ?_
  refine lv_iconst (v := 0) hx hb dL_copy_1 (by decide) ?_
  refine lv_aload_n hx hb dL_copy_2 rfl (lv_at hl 0 rfl) ?_
  refine lv_iload_n hx hb dL_copy_3 rfl (lv_at hl 1 rfl) ?_
  refine lv_iload_n hx hb dL_copy_4 rfl (lv_at hl 2 rfl) ?_
  obtain ⟨xx1, exx1, hE⟩ := j_bd hG0 hE
  try dsimp only at hE
  refine jt_vi [.int p2, .int p3] [.int (0 : Int32), .ref (ad q4)] jc jx jw hA hq1 (by decide) rfl (c_X9_copy hl9 hY hq1 (M := M) exx1) sd_L_33 rfl hl.1 (j_hRT hRf hRl hRc hRs rfl rfl rfl rfl) (Nat.le_of_ble_eq_true rfl) dL_copy_5 (fun H locs txx1 ce q9 ht jw hce hcv hcl => ?_) (fun H locs uxx1 hu jw => ?_)
  · subst ht
    try dsimp only at hE
    rcases Classical.em (txx1.1 = 0) with t2 | t2
    · rw [if_pos t2] at hE
      rw [t2] at hcl
      refine jw_catch (k := 0) [] (0, 10, 13, 13) [] jc jx htab rfl (by decide) (fun z hz => absurd hz List.not_mem_nil) (by decide) (by decide) wd_2_124 hce hcv hcl ?_
      refine lv_astore (lv' := [(4, .ref q9), (0, .ref (ad q1)), (1, .int p2), (2, .int p3), (3, .ref (ad q4))]) hx hb dL_copy_13 hl (by decide) rfl (fun ls hl => ?_)
      refine lv_iconst (v := 1) hx hb dL_copy_15 (by decide) ?_
      exact kr _ _ _ _ _ _ _ _ (congrArg Prod.fst (Option.some.inj (j_ret eG0 hE))) (congrArg Prod.snd (Option.some.inj (j_ret eG0 hE))) jw (j_cs hRc hRs rfl rfl) dL_copy_16
    rw [if_neg t2] at hE
    exact absurd hE (hG0 _)
  subst hu
  try dsimp only at hE
  refine lv_i2l (v := Int32.toInt64 uxx1.1) hx hb dL_copy_8 rfl ?_
  rcases Classical.em (j_g (0 : Int32) (j_ln Y q4)) with g3 | g3
  case inr => rw [if_neg g3] at hE; exact absurd hE (hG0 _)
  rw [if_pos g3] at hE
  refine jr_last jc jw hq4 (j_g_in g3) dL_copy_9 (fun H locs jw => ?_)
  obtain ⟨mm4, emm4, hE⟩ := j_lv hE
  rw [← emm4] at jw
  try dsimp only at hE
  refine lv_goto (tgt := 17) hx hb dL_copy_10 (by decide) ?_
  refine lv_iconst (v := 0) hx hb dL_copy_17 (by decide) ?_
  exact kr _ _ _ _ _ _ _ _ (congrArg Prod.fst (Option.some.inj (j_ret eG0 hE))) (congrArg Prod.snd (Option.some.inj (j_ret eG0 hE))) jw (j_cs hRc hRs rfl rfl) dL_copy_18
def s_L_isSame (Y : JY) (M : JM) (q1 : Nat) (p2 : Int32) (p3 : Int32) (q4 : Nat) : Option (Int32 × JM) := (s_X9_isSame Y M q1 p2 p3).bind fun xx1 => match xx1 with | Sum.inl txx1 => (if txx1.1 = 0 then (some ((1 : Int32), txx1.2)) else (none)) | Sum.inr uxx1 => (lt_ (if uxx1.1 = 0 then ((0 : Int32)) else ((1 : Int32))) fun xx9 => if j_g (0 : Int32) (j_ln Y q4) then (lt_ (j_up uxx1.2 q4 (0 : Int32).toNatClampNeg xx9) fun mm8 => some ((0 : Int32), mm8)) else none)
set_option maxRecDepth 100000 in
set_option maxHeartbeats 4000000 in
theorem c_L_isSame {D : va_G} {Y : JY} {ty : Nat → ClassId} {ad : Nat → Nat} {sz : Nat} {l : Launch} {M : JM} (hl9 : l.stackTraces = false) (hY : j_ok Y) {q1 : Nat} {p2 : Int32} {p3 : Int32} {q4 : Nat} (hq1 : j_kd Y q1 = 9) (hq4 : j_kd Y q4 = 104) {r : Int32 × JM} (hE : s_L_isSame Y M q1 p2 p3 q4 = some r) : JMw D Y ty ad sz l yL_isSame cL_isSame 5 [(0, 17, 20, 13)] 8 135 2 12 [.ref (ad q1), .int p2, .int p3, .ref (ad q4)] M r.1 r.2 := by
  refine j_ofw hY (by decide +kernel) (Nat.le_of_ble_eq_true rfl) rfl (fun p e s m below meth c args R Q A hRf hRl hRc hRs hA jc jx htab jw kr ls hl => ?_)
  have hx := jc.1
  have hb := jc.2.1
  have hl : lv_has ls 5 [(0, .ref (ad q1)), (1, .int p2), (2, .int p3), (3, .ref (ad q4))] := hl
  unfold s_L_isSame at hE
  obtain ⟨G0, eG0, hG0, hE⟩ := j_F0o hE
  refine lv_aload_n hx hb dL_isSame_0 rfl (lv_at hl 3 rfl) ?_
  refine lv_iconst (v := 0) hx hb dL_isSame_1 (by decide) ?_
  refine lv_aload_n hx hb dL_isSame_2 rfl (lv_at hl 0 rfl) ?_
  refine lv_iload_n hx hb dL_isSame_3 rfl (lv_at hl 1 rfl) ?_
  refine lv_iload_n hx hb dL_isSame_4 rfl (lv_at hl 2 rfl) ?_
  obtain ⟨xx1, exx1, hE⟩ := j_bd hG0 hE
  try dsimp only at hE
  refine jt_vz [.int p2, .int p3] [.int (0 : Int32), .ref (ad q4)] jc jx jw hA hq1 (by decide) rfl (c_X9_isSame hl9 hY hq1 (M := M) exx1) sd_L_36 rfl hl.1 (j_hRT hRf hRl hRc hRs rfl rfl rfl rfl) (Nat.le_of_ble_eq_true rfl) dL_isSame_5 (fun H locs txx1 ce q9 ht jw hce hcv hcl => ?_) (fun H locs uxx1 hu jw hz => ?_)
  · subst ht
    try dsimp only at hE
    rcases Classical.em (txx1.1 = 0) with t2 | t2
    · rw [if_pos t2] at hE
      rw [t2] at hcl
      refine jw_catch (k := 0) [] (0, 17, 20, 13) [] jc jx htab rfl (by decide) (fun z hz => absurd hz List.not_mem_nil) (by decide) (by decide) wd_2_124 hce hcv hcl ?_
      refine lv_astore (lv' := [(4, .ref q9), (0, .ref (ad q1)), (1, .int p2), (2, .int p3), (3, .ref (ad q4))]) hx hb dL_isSame_20 hl (by decide) rfl (fun ls hl => ?_)
      refine lv_iconst (v := 1) hx hb dL_isSame_22 (by decide) ?_
      exact kr _ _ _ _ _ _ _ _ (congrArg Prod.fst (Option.some.inj (j_ret eG0 hE))) (congrArg Prod.snd (Option.some.inj (j_ret eG0 hE))) jw (j_cs hRc hRs rfl rfl) dL_isSame_23
    rw [if_neg t2] at hE
    exact absurd hE (hG0 _)
  subst hu
  try dsimp only at hE
  have z_3 := hz
  obtain ⟨G5, eG5, hE⟩ := j_ctxL hE
  have J5 : ∀ (vv6 : Int32)  (H : Heap) (locs : List Loc) (ls : Array Slot), G5 (vv6) = some r → JW D Y ty ad A s.heap uxx1.2 H locs → lv_has ls 5 [] → W p l e R s m args below meth c H locs 2 12 Q (F0 m 16 ls [.long (Int32.toInt64 vv6), .int (0 : Int32), .ref (ad q4)]) := by
    intro vv6  H locs ls hE jw hl
    replace hE := j_popL eG5 hE
    try dsimp only at hE
    rcases Classical.em (j_g (0 : Int32) (j_ln Y q4)) with g7 | g7
    case inr => rw [if_neg g7] at hE; exact absurd hE (hG0 _)
    rw [if_pos g7] at hE
    refine jr_last jc jw hq4 (j_g_in g7) dL_isSame_16 (fun H locs jw => ?_)
    obtain ⟨mm8, emm8, hE⟩ := j_lv hE
    rw [← emm8] at jw
    try dsimp only at hE
    refine lv_goto (tgt := 24) hx hb dL_isSame_17 (by decide) ?_
    refine lv_iconst (v := 0) hx hb dL_isSame_24 (by decide) ?_
    exact kr _ _ _ _ _ _ _ _ (congrArg Prod.fst (Option.some.inj (j_ret eG0 hE))) (congrArg Prod.snd (Option.some.inj (j_ret eG0 hE))) jw (j_cs hRc hRs rfl rfl) dL_isSame_25
  refine lv_if_eq (tgt := 15) hx hb dL_isSame_8 (by decide) (fun c4 => ?_) (fun c4 => ?_)
  · rw [if_pos c4] at hE
    refine lv_lconst (v := Int32.toInt64 (0 : Int32)) hx hb dL_isSame_15 (by decide) ?_
    exact J5 (0 : Int32)  H locs ls hE jw (lv_sub hl [] rfl)
  · rw [if_neg c4] at hE
    refine lv_lconst (v := Int32.toInt64 (1 : Int32)) hx hb dL_isSame_11 (by decide) ?_
    refine lv_goto (tgt := 16) hx hb dL_isSame_12 (by decide) ?_
    exact J5 (1 : Int32)  H locs ls hE jw (lv_sub hl [] rfl)
def s_L_distance (Y : JY) (M : JM) (q1 : Nat) (p2 : Int32) (p3 : Int32) (q4 : Nat) : Option (Int32 × JM) := (s_X9_distance Y M q1 p2 p3).bind fun xx1 => match xx1 with | Sum.inl txx1 => (if txx1.1 = 0 then (some ((1 : Int32), txx1.2)) else (none)) | Sum.inr uxx1 => (if j_g (0 : Int32) (j_ln Y q4) then (lt_ (j_up uxx1.2 q4 (0 : Int32).toNatClampNeg uxx1.1) fun mm4 => some ((0 : Int32), mm4)) else none)
set_option maxRecDepth 100000 in
set_option maxHeartbeats 4000000 in
theorem c_L_distance {D : va_G} {Y : JY} {ty : Nat → ClassId} {ad : Nat → Nat} {sz : Nat} {l : Launch} {M : JM} (hl9 : l.stackTraces = false) (hY : j_ok Y) {q1 : Nat} {p2 : Int32} {p3 : Int32} {q4 : Nat} (hq1 : j_kd Y q1 = 9) (hq4 : j_kd Y q4 = 104) {r : Int32 × JM} (hE : s_L_distance Y M q1 p2 p3 q4 = some r) : JMw D Y ty ad sz l yL_distance cL_distance 5 [(0, 10, 13, 13)] 8 161 2 12 [.ref (ad q1), .int p2, .int p3, .ref (ad q4)] M r.1 r.2 := by
  refine j_ofw hY (by decide +kernel) (Nat.le_of_ble_eq_true rfl) rfl (fun p e s m below meth c args R Q A hRf hRl hRc hRs hA jc jx htab jw kr ls hl => ?_)
  have hx := jc.1
  have hb := jc.2.1
  have hl : lv_has ls 5 [(0, .ref (ad q1)), (1, .int p2), (2, .int p3), (3, .ref (ad q4))] := hl
  unfold s_L_distance at hE
  obtain ⟨G0, eG0, hG0, hE⟩ := j_F0o hE
  refine lv_aload_n hx hb dL_distance_0 rfl (lv_at hl 3 rfl) ?_
  refine lv_iconst (v := 0) hx hb dL_distance_1 (by decide) ?_
  refine lv_aload_n hx hb dL_distance_2 rfl (lv_at hl 0 rfl) ?_
  refine lv_iload_n hx hb dL_distance_3 rfl (lv_at hl 1 rfl) ?_
  refine lv_iload_n hx hb dL_distance_4 rfl (lv_at hl 2 rfl) ?_
  obtain ⟨xx1, exx1, hE⟩ := j_bd hG0 hE
  try dsimp only at hE
  refine jt_vi [.int p2, .int p3] [.int (0 : Int32), .ref (ad q4)] jc jx jw hA hq1 (by decide) rfl (c_X9_distance hl9 hY hq1 (M := M) exx1) sd_L_40 rfl hl.1 (j_hRT hRf hRl hRc hRs rfl rfl rfl rfl) (Nat.le_of_ble_eq_true rfl) dL_distance_5 (fun H locs txx1 ce q9 ht jw hce hcv hcl => ?_) (fun H locs uxx1 hu jw => ?_)
  · subst ht
    try dsimp only at hE
    rcases Classical.em (txx1.1 = 0) with t2 | t2
    · rw [if_pos t2] at hE
      rw [t2] at hcl
      refine jw_catch (k := 0) [] (0, 10, 13, 13) [] jc jx htab rfl (by decide) (fun z hz => absurd hz List.not_mem_nil) (by decide) (by decide) wd_2_124 hce hcv hcl ?_
      refine lv_astore (lv' := [(4, .ref q9), (0, .ref (ad q1)), (1, .int p2), (2, .int p3), (3, .ref (ad q4))]) hx hb dL_distance_13 hl (by decide) rfl (fun ls hl => ?_)
      refine lv_iconst (v := 1) hx hb dL_distance_15 (by decide) ?_
      exact kr _ _ _ _ _ _ _ _ (congrArg Prod.fst (Option.some.inj (j_ret eG0 hE))) (congrArg Prod.snd (Option.some.inj (j_ret eG0 hE))) jw (j_cs hRc hRs rfl rfl) dL_distance_16
    rw [if_neg t2] at hE
    exact absurd hE (hG0 _)
  subst hu
  try dsimp only at hE
  refine lv_i2l (v := Int32.toInt64 uxx1.1) hx hb dL_distance_8 rfl ?_
  rcases Classical.em (j_g (0 : Int32) (j_ln Y q4)) with g3 | g3
  case inr => rw [if_neg g3] at hE; exact absurd hE (hG0 _)
  rw [if_pos g3] at hE
  refine jr_last jc jw hq4 (j_g_in g3) dL_distance_9 (fun H locs jw => ?_)
  obtain ⟨mm4, emm4, hE⟩ := j_lv hE
  rw [← emm4] at jw
  try dsimp only at hE
  refine lv_goto (tgt := 17) hx hb dL_distance_10 (by decide) ?_
  refine lv_iconst (v := 0) hx hb dL_distance_17 (by decide) ?_
  exact kr _ _ _ _ _ _ _ _ (congrArg Prod.fst (Option.some.inj (j_ret eG0 hE))) (congrArg Prod.snd (Option.some.inj (j_ret eG0 hE))) jw (j_cs hRc hRs rfl rfl) dL_distance_18
def s_L_feed (Y : JY) (M : JM) (q1 : Nat) (p2 : Int32) (q3 : Nat) : Option (Int32 × JM) := (s_X9_feed Y M q1 p2).bind fun xx1 => match xx1 with | Sum.inl txx1 => (if txx1.1 = 1 then (some ((1 : Int32), txx1.2)) else (none)) | Sum.inr uxx1 => (if j_g (0 : Int32) (j_ln Y q3) then (lt_ (j_up uxx1.2 q3 (0 : Int32).toNatClampNeg uxx1.1) fun mm4 => some ((0 : Int32), mm4)) else none)
set_option maxRecDepth 100000 in
set_option maxHeartbeats 4000000 in
theorem c_L_feed {D : va_G} {Y : JY} {ty : Nat → ClassId} {ad : Nat → Nat} {sz : Nat} {l : Launch} {M : JM} (hl9 : l.stackTraces = false) (hY : j_ok Y) {q1 : Nat} {p2 : Int32} {q3 : Nat} (hq1 : j_kd Y q1 = 9) (hq3 : j_kd Y q3 = 104) {r : Int32 × JM} (hE : s_L_feed Y M q1 p2 q3 = some r) : JMw D Y ty ad sz l yL_feed cL_feed 4 [(0, 9, 12, 15)] 7 111 1 6 [.ref (ad q1), .int p2, .ref (ad q3)] M r.1 r.2 := by
  refine j_ofw hY (by decide +kernel) (Nat.le_of_ble_eq_true rfl) rfl (fun p e s m below meth c args R Q A hRf hRl hRc hRs hA jc jx htab jw kr ls hl => ?_)
  have hx := jc.1
  have hb := jc.2.1
  have hl : lv_has ls 4 [(0, .ref (ad q1)), (1, .int p2), (2, .ref (ad q3))] := hl
  unfold s_L_feed at hE
  obtain ⟨G0, eG0, hG0, hE⟩ := j_F0o hE
  refine lv_aload_n hx hb dL_feed_0 rfl (lv_at hl 2 rfl) ?_
  refine lv_iconst (v := 0) hx hb dL_feed_1 (by decide) ?_
  refine lv_aload_n hx hb dL_feed_2 rfl (lv_at hl 0 rfl) ?_
  refine lv_iload_n hx hb dL_feed_3 rfl (lv_at hl 1 rfl) ?_
  obtain ⟨xx1, exx1, hE⟩ := j_bd hG0 hE
  try dsimp only at hE
  refine jt_vi [.int p2] [.int (0 : Int32), .ref (ad q3)] jc jx jw hA hq1 (by decide) rfl (c_X9_feed hl9 hY hq1 (M := M) exx1) sd_L_43 rfl hl.1 (j_hRT hRf hRl hRc hRs rfl rfl rfl rfl) (Nat.le_of_ble_eq_true rfl) dL_feed_4 (fun H locs txx1 ce q9 ht jw hce hcv hcl => ?_) (fun H locs uxx1 hu jw => ?_)
  · subst ht
    try dsimp only at hE
    rcases Classical.em (txx1.1 = 1) with t2 | t2
    · rw [if_pos t2] at hE
      rw [t2] at hcl
      refine jw_catch (k := 1) [] (0, 9, 12, 15) [] jc jx htab rfl (by decide) (fun z hz => absurd hz List.not_mem_nil) (by decide) (by decide) wd_2_125 hce hcv hcl ?_
      refine lv_astore_n (lv' := [(3, .ref q9), (0, .ref (ad q1)), (1, .int p2), (2, .ref (ad q3))]) hx hb dL_feed_12 rfl hl (by decide) rfl (fun ls hl => ?_)
      refine lv_iconst (v := 1) hx hb dL_feed_13 (by decide) ?_
      exact kr _ _ _ _ _ _ _ _ (congrArg Prod.fst (Option.some.inj (j_ret eG0 hE))) (congrArg Prod.snd (Option.some.inj (j_ret eG0 hE))) jw (j_cs hRc hRs rfl rfl) dL_feed_14
    rw [if_neg t2] at hE
    exact absurd hE (hG0 _)
  subst hu
  try dsimp only at hE
  refine lv_i2l (v := Int32.toInt64 uxx1.1) hx hb dL_feed_7 rfl ?_
  rcases Classical.em (j_g (0 : Int32) (j_ln Y q3)) with g3 | g3
  case inr => rw [if_neg g3] at hE; exact absurd hE (hG0 _)
  rw [if_pos g3] at hE
  refine jr_last jc jw hq3 (j_g_in g3) dL_feed_8 (fun H locs jw => ?_)
  obtain ⟨mm4, emm4, hE⟩ := j_lv hE
  rw [← emm4] at jw
  try dsimp only at hE
  refine lv_goto (tgt := 15) hx hb dL_feed_9 (by decide) ?_
  refine lv_iconst (v := 0) hx hb dL_feed_15 (by decide) ?_
  exact kr _ _ _ _ _ _ _ _ (congrArg Prod.fst (Option.some.inj (j_ret eG0 hE))) (congrArg Prod.snd (Option.some.inj (j_ret eG0 hE))) jw (j_cs hRc hRs rfl rfl) dL_feed_16
def s_L_readDocument (Y : JY) (M : JM) (q1 : Nat) (p2 : Int32) (q3 : Nat) : Option (Int32 × JM) := (s_X9_readDocument Y M q1 p2).bind fun xx1 => match xx1 with | Sum.inl txx1 => (if txx1.1 = 0 then (some ((1 : Int32), txx1.2)) else (if txx1.1 = 1 then (some ((2 : Int32), txx1.2)) else (none))) | Sum.inr uxx1 => (if j_g (0 : Int32) (j_ln Y q3) then (lt_ (j_up uxx1.2 q3 (0 : Int32).toNatClampNeg uxx1.1) fun mm5 => some ((0 : Int32), mm5)) else none)
set_option maxRecDepth 100000 in
set_option maxHeartbeats 4000000 in
theorem c_L_readDocument {D : va_G} {Y : JY} {ty : Nat → ClassId} {ad : Nat → Nat} {sz : Nat} {l : Launch} {M : JM} (hl9 : l.stackTraces = false) (hY : j_ok Y) {q1 : Nat} {p2 : Int32} {q3 : Nat} (hq1 : j_kd Y q1 = 9) (hq3 : j_kd Y q3 = 104) {r : Int32 × JM} (hE : s_L_readDocument Y M q1 p2 q3 = some r) : JMw D Y ty ad sz l yL_readDocument cL_readDocument 4 [(0, 9, 12, 13), (0, 9, 15, 15)] 8 135 2 12 [.ref (ad q1), .int p2, .ref (ad q3)] M r.1 r.2 := by
  refine j_ofw hY (by decide +kernel) (Nat.le_of_ble_eq_true rfl) rfl (fun p e s m below meth c args R Q A hRf hRl hRc hRs hA jc jx htab jw kr ls hl => ?_)
  have hx := jc.1
  have hb := jc.2.1
  have hl : lv_has ls 4 [(0, .ref (ad q1)), (1, .int p2), (2, .ref (ad q3))] := hl
  unfold s_L_readDocument at hE
  obtain ⟨G0, eG0, hG0, hE⟩ := j_F0o hE
  refine lv_aload_n hx hb dL_readDocument_0 rfl (lv_at hl 2 rfl) ?_
  refine lv_iconst (v := 0) hx hb dL_readDocument_1 (by decide) ?_
  refine lv_aload_n hx hb dL_readDocument_2 rfl (lv_at hl 0 rfl) ?_
  refine lv_iload_n hx hb dL_readDocument_3 rfl (lv_at hl 1 rfl) ?_
  obtain ⟨xx1, exx1, hE⟩ := j_bd hG0 hE
  try dsimp only at hE
  refine jt_vi [.int p2] [.int (0 : Int32), .ref (ad q3)] jc jx jw hA hq1 (by decide) rfl (c_X9_readDocument hl9 hY hq1 (M := M) exx1) sd_L_47 rfl hl.1 (j_hRT hRf hRl hRc hRs rfl rfl rfl rfl) (Nat.le_of_ble_eq_true rfl) dL_readDocument_4 (fun H locs txx1 ce q9 ht jw hce hcv hcl => ?_) (fun H locs uxx1 hu jw => ?_)
  · subst ht
    try dsimp only at hE
    rcases Classical.em (txx1.1 = 0) with t2 | t2
    · rw [if_pos t2] at hE
      rw [t2] at hcl
      refine jw_catch (k := 0) [] (0, 9, 12, 13) [(0, 9, 15, 15)] jc jx htab rfl (by decide) (fun z hz => absurd hz List.not_mem_nil) (by decide) (by decide) wd_2_124 hce hcv hcl ?_
      refine lv_astore_n (lv' := [(3, .ref q9), (0, .ref (ad q1)), (1, .int p2), (2, .ref (ad q3))]) hx hb dL_readDocument_12 rfl hl (by decide) rfl (fun ls hl => ?_)
      refine lv_iconst (v := 1) hx hb dL_readDocument_13 (by decide) ?_
      exact kr _ _ _ _ _ _ _ _ (congrArg Prod.fst (Option.some.inj (j_ret eG0 hE))) (congrArg Prod.snd (Option.some.inj (j_ret eG0 hE))) jw (j_cs hRc hRs rfl rfl) dL_readDocument_14
    rw [if_neg t2] at hE
    rcases Classical.em (txx1.1 = 1) with t3 | t3
    · rw [if_pos t3] at hE
      rw [t3] at hcl
      refine jw_catch (k := 1) [(0, 9, 12, 13)] (0, 9, 15, 15) [] jc jx htab rfl (by decide) (List.forall_mem_cons.mpr ⟨⟨by decide, 0, by decide, by decide, wd_2_124⟩, (fun z hz => absurd hz List.not_mem_nil)⟩) (by decide) (by decide) wd_2_125 hce hcv hcl ?_
      refine lv_astore_n (lv' := [(3, .ref q9), (0, .ref (ad q1)), (1, .int p2), (2, .ref (ad q3))]) hx hb dL_readDocument_15 rfl hl (by decide) rfl (fun ls hl => ?_)
      refine lv_iconst (v := 2) hx hb dL_readDocument_16 (by decide) ?_
      exact kr _ _ _ _ _ _ _ _ (congrArg Prod.fst (Option.some.inj (j_ret eG0 hE))) (congrArg Prod.snd (Option.some.inj (j_ret eG0 hE))) jw (j_cs hRc hRs rfl rfl) dL_readDocument_17
    rw [if_neg t3] at hE
    exact absurd hE (hG0 _)
  subst hu
  try dsimp only at hE
  refine lv_i2l (v := Int32.toInt64 uxx1.1) hx hb dL_readDocument_7 rfl ?_
  rcases Classical.em (j_g (0 : Int32) (j_ln Y q3)) with g4 | g4
  case inr => rw [if_neg g4] at hE; exact absurd hE (hG0 _)
  rw [if_pos g4] at hE
  refine jr_last jc jw hq3 (j_g_in g4) dL_readDocument_8 (fun H locs jw => ?_)
  obtain ⟨mm5, emm5, hE⟩ := j_lv hE
  rw [← emm5] at jw
  try dsimp only at hE
  refine lv_goto (tgt := 18) hx hb dL_readDocument_9 (by decide) ?_
  refine lv_iconst (v := 0) hx hb dL_readDocument_18 (by decide) ?_
  exact kr _ _ _ _ _ _ _ _ (congrArg Prod.fst (Option.some.inj (j_ret eG0 hE))) (congrArg Prod.snd (Option.some.inj (j_ret eG0 hE))) jw (j_cs hRc hRs rfl rfl) dL_readDocument_19
def s_L_setMode (Y : JY) (M : JM) (q1 : Nat) (p2 : Int32) (q3 : Nat) : Option (Int32 × JM) := (s_X9_setMode Y M q1 p2).bind fun xx1 => match xx1 with | Sum.inl txx1 => (if txx1.1 = 0 then (some ((1 : Int32), txx1.2)) else (none)) | Sum.inr uxx1 => (if j_g (0 : Int32) (j_ln Y q3) then (lt_ (j_up uxx1.2 q3 (0 : Int32).toNatClampNeg uxx1.1) fun mm4 => some ((0 : Int32), mm4)) else none)
set_option maxRecDepth 100000 in
set_option maxHeartbeats 4000000 in
theorem c_L_setMode {D : va_G} {Y : JY} {ty : Nat → ClassId} {ad : Nat → Nat} {sz : Nat} {l : Launch} {M : JM} (hl9 : l.stackTraces = false) (hY : j_ok Y) {q1 : Nat} {p2 : Int32} {q3 : Nat} (hq1 : j_kd Y q1 = 9) (hq3 : j_kd Y q3 = 104) {r : Int32 × JM} (hE : s_L_setMode Y M q1 p2 q3 = some r) : JMw D Y ty ad sz l yL_setMode cL_setMode 4 [(0, 9, 12, 13)] 7 112 1 6 [.ref (ad q1), .int p2, .ref (ad q3)] M r.1 r.2 := by
  refine j_ofw hY (by decide +kernel) (Nat.le_of_ble_eq_true rfl) rfl (fun p e s m below meth c args R Q A hRf hRl hRc hRs hA jc jx htab jw kr ls hl => ?_)
  have hx := jc.1
  have hb := jc.2.1
  have hl : lv_has ls 4 [(0, .ref (ad q1)), (1, .int p2), (2, .ref (ad q3))] := hl
  unfold s_L_setMode at hE
  obtain ⟨G0, eG0, hG0, hE⟩ := j_F0o hE
  refine lv_aload_n hx hb dL_setMode_0 rfl (lv_at hl 2 rfl) ?_
  refine lv_iconst (v := 0) hx hb dL_setMode_1 (by decide) ?_
  refine lv_aload_n hx hb dL_setMode_2 rfl (lv_at hl 0 rfl) ?_
  refine lv_iload_n hx hb dL_setMode_3 rfl (lv_at hl 1 rfl) ?_
  obtain ⟨xx1, exx1, hE⟩ := j_bd hG0 hE
  try dsimp only at hE
  refine jt_vi [.int p2] [.int (0 : Int32), .ref (ad q3)] jc jx jw hA hq1 (by decide) rfl (c_X9_setMode hl9 hY hq1 (M := M) exx1) sd_L_50 rfl hl.1 (j_hRT hRf hRl hRc hRs rfl rfl rfl rfl) (Nat.le_of_ble_eq_true rfl) dL_setMode_4 (fun H locs txx1 ce q9 ht jw hce hcv hcl => ?_) (fun H locs uxx1 hu jw => ?_)
  · subst ht
    try dsimp only at hE
    rcases Classical.em (txx1.1 = 0) with t2 | t2
    · rw [if_pos t2] at hE
      rw [t2] at hcl
      refine jw_catch (k := 0) [] (0, 9, 12, 13) [] jc jx htab rfl (by decide) (fun z hz => absurd hz List.not_mem_nil) (by decide) (by decide) wd_2_124 hce hcv hcl ?_
      refine lv_astore_n (lv' := [(3, .ref q9), (0, .ref (ad q1)), (1, .int p2), (2, .ref (ad q3))]) hx hb dL_setMode_12 rfl hl (by decide) rfl (fun ls hl => ?_)
      refine lv_iconst (v := 1) hx hb dL_setMode_13 (by decide) ?_
      exact kr _ _ _ _ _ _ _ _ (congrArg Prod.fst (Option.some.inj (j_ret eG0 hE))) (congrArg Prod.snd (Option.some.inj (j_ret eG0 hE))) jw (j_cs hRc hRs rfl rfl) dL_setMode_14
    rw [if_neg t2] at hE
    exact absurd hE (hG0 _)
  subst hu
  try dsimp only at hE
  refine lv_i2l (v := Int32.toInt64 uxx1.1) hx hb dL_setMode_7 rfl ?_
  rcases Classical.em (j_g (0 : Int32) (j_ln Y q3)) with g3 | g3
  case inr => rw [if_neg g3] at hE; exact absurd hE (hG0 _)
  rw [if_pos g3] at hE
  refine jr_last jc jw hq3 (j_g_in g3) dL_setMode_8 (fun H locs jw => ?_)
  obtain ⟨mm4, emm4, hE⟩ := j_lv hE
  rw [← emm4] at jw
  try dsimp only at hE
  refine lv_goto (tgt := 15) hx hb dL_setMode_9 (by decide) ?_
  refine lv_iconst (v := 0) hx hb dL_setMode_15 (by decide) ?_
  exact kr _ _ _ _ _ _ _ _ (congrArg Prod.fst (Option.some.inj (j_ret eG0 hE))) (congrArg Prod.snd (Option.some.inj (j_ret eG0 hE))) jw (j_cs hRc hRs rfl rfl) dL_setMode_16
def s_L_compare (Y : JY) (M : JM) (q1 : Nat) (p2 : Int32) (p3 : Int32) (q4 : Nat) : Option (Int32 × JM) := (s_X9_compare Y M q1 p2 p3).bind fun xx1 => match xx1 with | Sum.inl txx1 => (if txx1.1 = 0 then (some ((1 : Int32), txx1.2)) else (none)) | Sum.inr uxx1 => (if j_g (0 : Int32) (j_ln Y q4) then (lt_ (j_up uxx1.2 q4 (0 : Int32).toNatClampNeg uxx1.1) fun mm4 => some ((0 : Int32), mm4)) else none)
set_option maxRecDepth 100000 in
set_option maxHeartbeats 4000000 in
theorem c_L_compare {D : va_G} {Y : JY} {ty : Nat → ClassId} {ad : Nat → Nat} {sz : Nat} {l : Launch} {M : JM} (hl9 : l.stackTraces = false) (hY : j_ok Y) {q1 : Nat} {p2 : Int32} {p3 : Int32} {q4 : Nat} (hq1 : j_kd Y q1 = 9) (hq4 : j_kd Y q4 = 104) {r : Int32 × JM} (hE : s_L_compare Y M q1 p2 p3 q4 = some r) : JMw D Y ty ad sz l yL_compare cL_compare 5 [(0, 10, 13, 13)] 8 184 2 12 [.ref (ad q1), .int p2, .int p3, .ref (ad q4)] M r.1 r.2 := by
  refine j_ofw hY (by decide +kernel) (Nat.le_of_ble_eq_true rfl) rfl (fun p e s m below meth c args R Q A hRf hRl hRc hRs hA jc jx htab jw kr ls hl => ?_)
  have hx := jc.1
  have hb := jc.2.1
  have hl : lv_has ls 5 [(0, .ref (ad q1)), (1, .int p2), (2, .int p3), (3, .ref (ad q4))] := hl
  unfold s_L_compare at hE
  obtain ⟨G0, eG0, hG0, hE⟩ := j_F0o hE
  refine lv_aload_n hx hb dL_compare_0 rfl (lv_at hl 3 rfl) ?_
  refine lv_iconst (v := 0) hx hb dL_compare_1 (by decide) ?_
  refine lv_aload_n hx hb dL_compare_2 rfl (lv_at hl 0 rfl) ?_
  refine lv_iload_n hx hb dL_compare_3 rfl (lv_at hl 1 rfl) ?_
  refine lv_iload_n hx hb dL_compare_4 rfl (lv_at hl 2 rfl) ?_
  obtain ⟨xx1, exx1, hE⟩ := j_bd hG0 hE
  try dsimp only at hE
  refine jt_vi [.int p2, .int p3] [.int (0 : Int32), .ref (ad q4)] jc jx jw hA hq1 (by decide) rfl (c_X9_compare hl9 hY hq1 (M := M) exx1) sd_L_53 rfl hl.1 (j_hRT hRf hRl hRc hRs rfl rfl rfl rfl) (Nat.le_of_ble_eq_true rfl) dL_compare_5 (fun H locs txx1 ce q9 ht jw hce hcv hcl => ?_) (fun H locs uxx1 hu jw => ?_)
  · subst ht
    try dsimp only at hE
    rcases Classical.em (txx1.1 = 0) with t2 | t2
    · rw [if_pos t2] at hE
      rw [t2] at hcl
      refine jw_catch (k := 0) [] (0, 10, 13, 13) [] jc jx htab rfl (by decide) (fun z hz => absurd hz List.not_mem_nil) (by decide) (by decide) wd_2_124 hce hcv hcl ?_
      refine lv_astore (lv' := [(4, .ref q9), (0, .ref (ad q1)), (1, .int p2), (2, .int p3), (3, .ref (ad q4))]) hx hb dL_compare_13 hl (by decide) rfl (fun ls hl => ?_)
      refine lv_iconst (v := 1) hx hb dL_compare_15 (by decide) ?_
      exact kr _ _ _ _ _ _ _ _ (congrArg Prod.fst (Option.some.inj (j_ret eG0 hE))) (congrArg Prod.snd (Option.some.inj (j_ret eG0 hE))) jw (j_cs hRc hRs rfl rfl) dL_compare_16
    rw [if_neg t2] at hE
    exact absurd hE (hG0 _)
  subst hu
  try dsimp only at hE
  refine lv_i2l (v := Int32.toInt64 uxx1.1) hx hb dL_compare_8 rfl ?_
  rcases Classical.em (j_g (0 : Int32) (j_ln Y q4)) with g3 | g3
  case inr => rw [if_neg g3] at hE; exact absurd hE (hG0 _)
  rw [if_pos g3] at hE
  refine jr_last jc jw hq4 (j_g_in g3) dL_compare_9 (fun H locs jw => ?_)
  obtain ⟨mm4, emm4, hE⟩ := j_lv hE
  rw [← emm4] at jw
  try dsimp only at hE
  refine lv_goto (tgt := 17) hx hb dL_compare_10 (by decide) ?_
  refine lv_iconst (v := 0) hx hb dL_compare_17 (by decide) ?_
  exact kr _ _ _ _ _ _ _ _ (congrArg Prod.fst (Option.some.inj (j_ret eG0 hE))) (congrArg Prod.snd (Option.some.inj (j_ret eG0 hE))) jw (j_cs hRc hRs rfl rfl) dL_compare_18
def s_L_partner (Y : JY) (M : JM) (q1 : Nat) (p2 : Int32) (q3 : Nat) : Option (Int32 × JM) := (s_X9_partner Y M q1 p2).bind fun xx1 => match xx1 with | Sum.inl txx1 => (if txx1.1 = 1 then (some ((1 : Int32), txx1.2)) else (if txx1.1 = 2 then (some ((2 : Int32), txx1.2)) else (none))) | Sum.inr uxx1 => (if j_g (0 : Int32) (j_ln Y q3) then (lt_ (j_up uxx1.2 q3 (0 : Int32).toNatClampNeg uxx1.1) fun mm5 => some ((0 : Int32), mm5)) else none)
set_option maxRecDepth 100000 in
set_option maxHeartbeats 4000000 in
theorem c_L_partner {D : va_G} {Y : JY} {ty : Nat → ClassId} {ad : Nat → Nat} {sz : Nat} {l : Launch} {M : JM} (hl9 : l.stackTraces = false) (hY : j_ok Y) {q1 : Nat} {p2 : Int32} {q3 : Nat} (hq1 : j_kd Y q1 = 9) (hq3 : j_kd Y q3 = 104) {r : Int32 × JM} (hE : s_L_partner Y M q1 p2 q3 = some r) : JMw D Y ty ad sz l yL_partner cL_partner 4 [(0, 9, 12, 15), (0, 9, 15, 21)] 8 131 2 12 [.ref (ad q1), .int p2, .ref (ad q3)] M r.1 r.2 := by
  refine j_ofw hY (by decide +kernel) (Nat.le_of_ble_eq_true rfl) rfl (fun p e s m below meth c args R Q A hRf hRl hRc hRs hA jc jx htab jw kr ls hl => ?_)
  have hx := jc.1
  have hb := jc.2.1
  have hl : lv_has ls 4 [(0, .ref (ad q1)), (1, .int p2), (2, .ref (ad q3))] := hl
  unfold s_L_partner at hE
  obtain ⟨G0, eG0, hG0, hE⟩ := j_F0o hE
  refine lv_aload_n hx hb dL_partner_0 rfl (lv_at hl 2 rfl) ?_
  refine lv_iconst (v := 0) hx hb dL_partner_1 (by decide) ?_
  refine lv_aload_n hx hb dL_partner_2 rfl (lv_at hl 0 rfl) ?_
  refine lv_iload_n hx hb dL_partner_3 rfl (lv_at hl 1 rfl) ?_
  obtain ⟨xx1, exx1, hE⟩ := j_bd hG0 hE
  try dsimp only at hE
  refine jt_vi [.int p2] [.int (0 : Int32), .ref (ad q3)] jc jx jw hA hq1 (by decide) rfl (c_X9_partner hl9 hY hq1 (M := M) exx1) sd_L_56 rfl hl.1 (j_hRT hRf hRl hRc hRs rfl rfl rfl rfl) (Nat.le_of_ble_eq_true rfl) dL_partner_4 (fun H locs txx1 ce q9 ht jw hce hcv hcl => ?_) (fun H locs uxx1 hu jw => ?_)
  · subst ht
    try dsimp only at hE
    rcases Classical.em (txx1.1 = 1) with t2 | t2
    · rw [if_pos t2] at hE
      rw [t2] at hcl
      refine jw_catch (k := 1) [] (0, 9, 12, 15) [(0, 9, 15, 21)] jc jx htab rfl (by decide) (fun z hz => absurd hz List.not_mem_nil) (by decide) (by decide) wd_2_125 hce hcv hcl ?_
      refine lv_astore_n (lv' := [(3, .ref q9), (0, .ref (ad q1)), (1, .int p2), (2, .ref (ad q3))]) hx hb dL_partner_12 rfl hl (by decide) rfl (fun ls hl => ?_)
      refine lv_iconst (v := 1) hx hb dL_partner_13 (by decide) ?_
      exact kr _ _ _ _ _ _ _ _ (congrArg Prod.fst (Option.some.inj (j_ret eG0 hE))) (congrArg Prod.snd (Option.some.inj (j_ret eG0 hE))) jw (j_cs hRc hRs rfl rfl) dL_partner_14
    rw [if_neg t2] at hE
    rcases Classical.em (txx1.1 = 2) with t3 | t3
    · rw [if_pos t3] at hE
      rw [t3] at hcl
      refine jw_catch (k := 2) [(0, 9, 12, 15)] (0, 9, 15, 21) [] jc jx htab rfl (by decide) (List.forall_mem_cons.mpr ⟨⟨by decide, 1, by decide, by decide, wd_2_125⟩, (fun z hz => absurd hz List.not_mem_nil)⟩) (by decide) (by decide) wd_3_5 hce hcv hcl ?_
      refine lv_astore_n (lv' := [(3, .ref q9), (0, .ref (ad q1)), (1, .int p2), (2, .ref (ad q3))]) hx hb dL_partner_15 rfl hl (by decide) rfl (fun ls hl => ?_)
      refine lv_iconst (v := 2) hx hb dL_partner_16 (by decide) ?_
      exact kr _ _ _ _ _ _ _ _ (congrArg Prod.fst (Option.some.inj (j_ret eG0 hE))) (congrArg Prod.snd (Option.some.inj (j_ret eG0 hE))) jw (j_cs hRc hRs rfl rfl) dL_partner_17
    rw [if_neg t3] at hE
    exact absurd hE (hG0 _)
  subst hu
  try dsimp only at hE
  refine lv_i2l (v := Int32.toInt64 uxx1.1) hx hb dL_partner_7 rfl ?_
  rcases Classical.em (j_g (0 : Int32) (j_ln Y q3)) with g4 | g4
  case inr => rw [if_neg g4] at hE; exact absurd hE (hG0 _)
  rw [if_pos g4] at hE
  refine jr_last jc jw hq3 (j_g_in g4) dL_partner_8 (fun H locs jw => ?_)
  obtain ⟨mm5, emm5, hE⟩ := j_lv hE
  rw [← emm5] at jw
  try dsimp only at hE
  refine lv_goto (tgt := 18) hx hb dL_partner_9 (by decide) ?_
  refine lv_iconst (v := 0) hx hb dL_partner_18 (by decide) ?_
  exact kr _ _ _ _ _ _ _ _ (congrArg Prod.fst (Option.some.inj (j_ret eG0 hE))) (congrArg Prod.snd (Option.some.inj (j_ret eG0 hE))) jw (j_cs hRc hRs rfl rfl) dL_partner_19
def s_L_anchors (Y : JY) (M : JM) (q1 : Nat) (q2 : Nat) : Option (Int32 × JM) := (s_X9_anchors Y M q1).bind fun xx1 => match xx1 with | Sum.inl txx1 => (if txx1.1 = 1 then (some ((1 : Int32), txx1.2)) else (none)) | Sum.inr uxx1 => (if j_g (0 : Int32) (j_ln Y q2) then (lt_ (j_up uxx1.2 q2 (0 : Int32).toNatClampNeg uxx1.1) fun mm4 => some ((0 : Int32), mm4)) else none)
set_option maxRecDepth 100000 in
set_option maxHeartbeats 4000000 in
theorem c_L_anchors {D : va_G} {Y : JY} {ty : Nat → ClassId} {ad : Nat → Nat} {sz : Nat} {l : Launch} {M : JM} (hl9 : l.stackTraces = false) (hY : j_ok Y) {q1 : Nat} {q2 : Nat} (hq1 : j_kd Y q1 = 9) (hq2 : j_kd Y q2 = 104) {r : Int32 × JM} (hE : s_L_anchors Y M q1 q2 = some r) : JMw D Y ty ad sz l yL_anchors cL_anchors 3 [(0, 8, 11, 15)] 8 130 1 6 [.ref (ad q1), .ref (ad q2)] M r.1 r.2 := by
  refine j_ofw hY (by decide +kernel) (Nat.le_of_ble_eq_true rfl) rfl (fun p e s m below meth c args R Q A hRf hRl hRc hRs hA jc jx htab jw kr ls hl => ?_)
  have hx := jc.1
  have hb := jc.2.1
  have hl : lv_has ls 3 [(0, .ref (ad q1)), (1, .ref (ad q2))] := hl
  unfold s_L_anchors at hE
  obtain ⟨G0, eG0, hG0, hE⟩ := j_F0o hE
  refine lv_aload_n hx hb dL_anchors_0 rfl (lv_at hl 1 rfl) ?_
  refine lv_iconst (v := 0) hx hb dL_anchors_1 (by decide) ?_
  refine lv_aload_n hx hb dL_anchors_2 rfl (lv_at hl 0 rfl) ?_
  obtain ⟨xx1, exx1, hE⟩ := j_bd hG0 hE
  try dsimp only at hE
  refine jt_vi [] [.int (0 : Int32), .ref (ad q2)] jc jx jw hA hq1 (by decide) rfl (c_X9_anchors hl9 hY hq1 (M := M) exx1) sd_L_59 rfl hl.1 (j_hRT hRf hRl hRc hRs rfl rfl rfl rfl) (Nat.le_of_ble_eq_true rfl) dL_anchors_3 (fun H locs txx1 ce q9 ht jw hce hcv hcl => ?_) (fun H locs uxx1 hu jw => ?_)
  · subst ht
    try dsimp only at hE
    rcases Classical.em (txx1.1 = 1) with t2 | t2
    · rw [if_pos t2] at hE
      rw [t2] at hcl
      refine jw_catch (k := 1) [] (0, 8, 11, 15) [] jc jx htab rfl (by decide) (fun z hz => absurd hz List.not_mem_nil) (by decide) (by decide) wd_2_125 hce hcv hcl ?_
      refine lv_astore_n (lv' := [(2, .ref q9), (0, .ref (ad q1)), (1, .ref (ad q2))]) hx hb dL_anchors_11 rfl hl (by decide) rfl (fun ls hl => ?_)
      refine lv_iconst (v := 1) hx hb dL_anchors_12 (by decide) ?_
      exact kr _ _ _ _ _ _ _ _ (congrArg Prod.fst (Option.some.inj (j_ret eG0 hE))) (congrArg Prod.snd (Option.some.inj (j_ret eG0 hE))) jw (j_cs hRc hRs rfl rfl) dL_anchors_13
    rw [if_neg t2] at hE
    exact absurd hE (hG0 _)
  subst hu
  try dsimp only at hE
  refine lv_i2l (v := Int32.toInt64 uxx1.1) hx hb dL_anchors_6 rfl ?_
  rcases Classical.em (j_g (0 : Int32) (j_ln Y q2)) with g3 | g3
  case inr => rw [if_neg g3] at hE; exact absurd hE (hG0 _)
  rw [if_pos g3] at hE
  refine jr_last jc jw hq2 (j_g_in g3) dL_anchors_7 (fun H locs jw => ?_)
  obtain ⟨mm4, emm4, hE⟩ := j_lv hE
  rw [← emm4] at jw
  try dsimp only at hE
  refine lv_goto (tgt := 14) hx hb dL_anchors_8 (by decide) ?_
  refine lv_iconst (v := 0) hx hb dL_anchors_14 (by decide) ?_
  exact kr _ _ _ _ _ _ _ _ (congrArg Prod.fst (Option.some.inj (j_ret eG0 hE))) (congrArg Prod.snd (Option.some.inj (j_ret eG0 hE))) jw (j_cs hRc hRs rfl rfl) dL_anchors_15
def s_L_differences (Y : JY) (M : JM) (q1 : Nat) (q2 : Nat) : Option (Int32 × JM) := (s_X9_differences Y M q1).bind fun xx1 => match xx1 with | Sum.inl txx1 => (if txx1.1 = 1 then (some ((1 : Int32), txx1.2)) else (none)) | Sum.inr uxx1 => (if j_g (0 : Int32) (j_ln Y q2) then (lt_ (j_up uxx1.2 q2 (0 : Int32).toNatClampNeg uxx1.1) fun mm4 => some ((0 : Int32), mm4)) else none)
set_option maxRecDepth 100000 in
set_option maxHeartbeats 4000000 in
theorem c_L_differences {D : va_G} {Y : JY} {ty : Nat → ClassId} {ad : Nat → Nat} {sz : Nat} {l : Launch} {M : JM} (hl9 : l.stackTraces = false) (hY : j_ok Y) {q1 : Nat} {q2 : Nat} (hq1 : j_kd Y q1 = 9) (hq2 : j_kd Y q2 = 104) {r : Int32 × JM} (hE : s_L_differences Y M q1 q2 = some r) : JMw D Y ty ad sz l yL_differences cL_differences 3 [(0, 8, 11, 15)] 8 130 1 6 [.ref (ad q1), .ref (ad q2)] M r.1 r.2 := by
  refine j_ofw hY (by decide +kernel) (Nat.le_of_ble_eq_true rfl) rfl (fun p e s m below meth c args R Q A hRf hRl hRc hRs hA jc jx htab jw kr ls hl => ?_)
  have hx := jc.1
  have hb := jc.2.1
  have hl : lv_has ls 3 [(0, .ref (ad q1)), (1, .ref (ad q2))] := hl
  unfold s_L_differences at hE
  obtain ⟨G0, eG0, hG0, hE⟩ := j_F0o hE
  refine lv_aload_n hx hb dL_differences_0 rfl (lv_at hl 1 rfl) ?_
  refine lv_iconst (v := 0) hx hb dL_differences_1 (by decide) ?_
  refine lv_aload_n hx hb dL_differences_2 rfl (lv_at hl 0 rfl) ?_
  obtain ⟨xx1, exx1, hE⟩ := j_bd hG0 hE
  try dsimp only at hE
  refine jt_vi [] [.int (0 : Int32), .ref (ad q2)] jc jx jw hA hq1 (by decide) rfl (c_X9_differences hl9 hY hq1 (M := M) exx1) sd_L_63 rfl hl.1 (j_hRT hRf hRl hRc hRs rfl rfl rfl rfl) (Nat.le_of_ble_eq_true rfl) dL_differences_3 (fun H locs txx1 ce q9 ht jw hce hcv hcl => ?_) (fun H locs uxx1 hu jw => ?_)
  · subst ht
    try dsimp only at hE
    rcases Classical.em (txx1.1 = 1) with t2 | t2
    · rw [if_pos t2] at hE
      rw [t2] at hcl
      refine jw_catch (k := 1) [] (0, 8, 11, 15) [] jc jx htab rfl (by decide) (fun z hz => absurd hz List.not_mem_nil) (by decide) (by decide) wd_2_125 hce hcv hcl ?_
      refine lv_astore_n (lv' := [(2, .ref q9), (0, .ref (ad q1)), (1, .ref (ad q2))]) hx hb dL_differences_11 rfl hl (by decide) rfl (fun ls hl => ?_)
      refine lv_iconst (v := 1) hx hb dL_differences_12 (by decide) ?_
      exact kr _ _ _ _ _ _ _ _ (congrArg Prod.fst (Option.some.inj (j_ret eG0 hE))) (congrArg Prod.snd (Option.some.inj (j_ret eG0 hE))) jw (j_cs hRc hRs rfl rfl) dL_differences_13
    rw [if_neg t2] at hE
    exact absurd hE (hG0 _)
  subst hu
  try dsimp only at hE
  refine lv_i2l (v := Int32.toInt64 uxx1.1) hx hb dL_differences_6 rfl ?_
  rcases Classical.em (j_g (0 : Int32) (j_ln Y q2)) with g3 | g3
  case inr => rw [if_neg g3] at hE; exact absurd hE (hG0 _)
  rw [if_pos g3] at hE
  refine jr_last jc jw hq2 (j_g_in g3) dL_differences_7 (fun H locs jw => ?_)
  obtain ⟨mm4, emm4, hE⟩ := j_lv hE
  rw [← emm4] at jw
  try dsimp only at hE
  refine lv_goto (tgt := 14) hx hb dL_differences_8 (by decide) ?_
  refine lv_iconst (v := 0) hx hb dL_differences_14 (by decide) ?_
  exact kr _ _ _ _ _ _ _ _ (congrArg Prod.fst (Option.some.inj (j_ret eG0 hE))) (congrArg Prod.snd (Option.some.inj (j_ret eG0 hE))) jw (j_cs hRc hRs rfl rfl) dL_differences_15
def s_L_difference (Y : JY) (M : JM) (q1 : Nat) (p2 : Int32) (p3 : Int32) (q4 : Nat) : Option (Int32 × JM) := (s_X9_difference Y M q1 p2 p3).bind fun xx1 => match xx1 with | Sum.inl txx1 => (if txx1.1 = 1 then (some ((1 : Int32), txx1.2)) else (if txx1.1 = 2 then (some ((2 : Int32), txx1.2)) else (if txx1.1 = 0 then (some ((3 : Int32), txx1.2)) else (none)))) | Sum.inr uxx1 => (if j_g (0 : Int32) (j_ln Y q4) then (lt_ (j_up uxx1.2 q4 (0 : Int32).toNatClampNeg uxx1.1) fun mm6 => some ((0 : Int32), mm6)) else none)
set_option maxRecDepth 100000 in
set_option maxHeartbeats 4000000 in
theorem c_L_difference {D : va_G} {Y : JY} {ty : Nat → ClassId} {ad : Nat → Nat} {sz : Nat} {l : Launch} {M : JM} (hl9 : l.stackTraces = false) (hY : j_ok Y) {q1 : Nat} {p2 : Int32} {p3 : Int32} {q4 : Nat} (hq1 : j_kd Y q1 = 9) (hq4 : j_kd Y q4 = 104) {r : Int32 × JM} (hE : s_L_difference Y M q1 p2 p3 q4 = some r) : JMw D Y ty ad sz l yL_difference cL_difference 5 [(0, 10, 13, 15), (0, 10, 17, 21), (0, 10, 21, 13)] 8 135 2 12 [.ref (ad q1), .int p2, .int p3, .ref (ad q4)] M r.1 r.2 := by
  refine j_ofw hY (by decide +kernel) (Nat.le_of_ble_eq_true rfl) rfl (fun p e s m below meth c args R Q A hRf hRl hRc hRs hA jc jx htab jw kr ls hl => ?_)
  have hx := jc.1
  have hb := jc.2.1
  have hl : lv_has ls 5 [(0, .ref (ad q1)), (1, .int p2), (2, .int p3), (3, .ref (ad q4))] := hl
  unfold s_L_difference at hE
  obtain ⟨G0, eG0, hG0, hE⟩ := j_F0o hE
  refine lv_aload_n hx hb dL_difference_0 rfl (lv_at hl 3 rfl) ?_
  refine lv_iconst (v := 0) hx hb dL_difference_1 (by decide) ?_
  refine lv_aload_n hx hb dL_difference_2 rfl (lv_at hl 0 rfl) ?_
  refine lv_iload_n hx hb dL_difference_3 rfl (lv_at hl 1 rfl) ?_
  refine lv_iload_n hx hb dL_difference_4 rfl (lv_at hl 2 rfl) ?_
  obtain ⟨xx1, exx1, hE⟩ := j_bd hG0 hE
  try dsimp only at hE
  refine jt_vi [.int p2, .int p3] [.int (0 : Int32), .ref (ad q4)] jc jx jw hA hq1 (by decide) rfl (c_X9_difference hl9 hY hq1 (M := M) exx1) sd_L_66 rfl hl.1 (j_hRT hRf hRl hRc hRs rfl rfl rfl rfl) (Nat.le_of_ble_eq_true rfl) dL_difference_5 (fun H locs txx1 ce q9 ht jw hce hcv hcl => ?_) (fun H locs uxx1 hu jw => ?_)
  · subst ht
    try dsimp only at hE
    rcases Classical.em (txx1.1 = 1) with t2 | t2
    · rw [if_pos t2] at hE
      rw [t2] at hcl
      refine jw_catch (k := 1) [] (0, 10, 13, 15) [(0, 10, 17, 21), (0, 10, 21, 13)] jc jx htab rfl (by decide) (fun z hz => absurd hz List.not_mem_nil) (by decide) (by decide) wd_2_125 hce hcv hcl ?_
      refine lv_astore (lv' := [(4, .ref q9), (0, .ref (ad q1)), (1, .int p2), (2, .int p3), (3, .ref (ad q4))]) hx hb dL_difference_13 hl (by decide) rfl (fun ls hl => ?_)
      refine lv_iconst (v := 1) hx hb dL_difference_15 (by decide) ?_
      exact kr _ _ _ _ _ _ _ _ (congrArg Prod.fst (Option.some.inj (j_ret eG0 hE))) (congrArg Prod.snd (Option.some.inj (j_ret eG0 hE))) jw (j_cs hRc hRs rfl rfl) dL_difference_16
    rw [if_neg t2] at hE
    rcases Classical.em (txx1.1 = 2) with t3 | t3
    · rw [if_pos t3] at hE
      rw [t3] at hcl
      refine jw_catch (k := 2) [(0, 10, 13, 15)] (0, 10, 17, 21) [(0, 10, 21, 13)] jc jx htab rfl (by decide) (List.forall_mem_cons.mpr ⟨⟨by decide, 1, by decide, by decide, wd_2_125⟩, (fun z hz => absurd hz List.not_mem_nil)⟩) (by decide) (by decide) wd_3_5 hce hcv hcl ?_
      refine lv_astore (lv' := [(4, .ref q9), (0, .ref (ad q1)), (1, .int p2), (2, .int p3), (3, .ref (ad q4))]) hx hb dL_difference_17 hl (by decide) rfl (fun ls hl => ?_)
      refine lv_iconst (v := 2) hx hb dL_difference_19 (by decide) ?_
      exact kr _ _ _ _ _ _ _ _ (congrArg Prod.fst (Option.some.inj (j_ret eG0 hE))) (congrArg Prod.snd (Option.some.inj (j_ret eG0 hE))) jw (j_cs hRc hRs rfl rfl) dL_difference_20
    rw [if_neg t3] at hE
    rcases Classical.em (txx1.1 = 0) with t4 | t4
    · rw [if_pos t4] at hE
      rw [t4] at hcl
      refine jw_catch (k := 0) [(0, 10, 13, 15), (0, 10, 17, 21)] (0, 10, 21, 13) [] jc jx htab rfl (by decide) (List.forall_mem_cons.mpr ⟨⟨by decide, 1, by decide, by decide, wd_2_125⟩, (List.forall_mem_cons.mpr ⟨⟨by decide, 2, by decide, by decide, wd_3_5⟩, (fun z hz => absurd hz List.not_mem_nil)⟩)⟩) (by decide) (by decide) wd_2_124 hce hcv hcl ?_
      refine lv_astore (lv' := [(4, .ref q9), (0, .ref (ad q1)), (1, .int p2), (2, .int p3), (3, .ref (ad q4))]) hx hb dL_difference_21 hl (by decide) rfl (fun ls hl => ?_)
      refine lv_iconst (v := 3) hx hb dL_difference_23 (by decide) ?_
      exact kr _ _ _ _ _ _ _ _ (congrArg Prod.fst (Option.some.inj (j_ret eG0 hE))) (congrArg Prod.snd (Option.some.inj (j_ret eG0 hE))) jw (j_cs hRc hRs rfl rfl) dL_difference_24
    rw [if_neg t4] at hE
    exact absurd hE (hG0 _)
  subst hu
  try dsimp only at hE
  refine lv_i2l (v := Int32.toInt64 uxx1.1) hx hb dL_difference_8 rfl ?_
  rcases Classical.em (j_g (0 : Int32) (j_ln Y q4)) with g5 | g5
  case inr => rw [if_neg g5] at hE; exact absurd hE (hG0 _)
  rw [if_pos g5] at hE
  refine jr_last jc jw hq4 (j_g_in g5) dL_difference_9 (fun H locs jw => ?_)
  obtain ⟨mm6, emm6, hE⟩ := j_lv hE
  rw [← emm6] at jw
  try dsimp only at hE
  refine lv_goto (tgt := 25) hx hb dL_difference_10 (by decide) ?_
  refine lv_iconst (v := 0) hx hb dL_difference_25 (by decide) ?_
  exact kr _ _ _ _ _ _ _ _ (congrArg Prod.fst (Option.some.inj (j_ret eG0 hE))) (congrArg Prod.snd (Option.some.inj (j_ret eG0 hE))) jw (j_cs hRc hRs rfl rfl) dL_difference_26
def s_L_step (Y : JY) (M : JM) (q1 : Nat) (p2 : Int32) (q3 : Nat) : Option (Int32 × JM) := (s_X9_step Y M q1 p2).bind fun xx1 => match xx1 with | Sum.inl txx1 => (if txx1.1 = 1 then (some ((1 : Int32), txx1.2)) else (if txx1.1 = 3 then (some ((2 : Int32), txx1.2)) else (none))) | Sum.inr uxx1 => (if j_g (0 : Int32) (j_ln Y q3) then (lt_ (j_up uxx1.2 q3 (0 : Int32).toNatClampNeg uxx1.1) fun mm5 => some ((0 : Int32), mm5)) else none)
set_option maxRecDepth 100000 in
set_option maxHeartbeats 4000000 in
theorem c_L_step {D : va_G} {Y : JY} {ty : Nat → ClassId} {ad : Nat → Nat} {sz : Nat} {l : Launch} {M : JM} (hl9 : l.stackTraces = false) (hY : j_ok Y) {q1 : Nat} {p2 : Int32} {q3 : Nat} (hq1 : j_kd Y q1 = 9) (hq3 : j_kd Y q3 = 104) {r : Int32 × JM} (hE : s_L_step Y M q1 p2 q3 = some r) : JMw D Y ty ad sz l yL_step cL_step 4 [(0, 9, 12, 15), (0, 9, 15, 72)] 8 131 2 12 [.ref (ad q1), .int p2, .ref (ad q3)] M r.1 r.2 := by
  refine j_ofw hY (by decide +kernel) (Nat.le_of_ble_eq_true rfl) rfl (fun p e s m below meth c args R Q A hRf hRl hRc hRs hA jc jx htab jw kr ls hl => ?_)
  have hx := jc.1
  have hb := jc.2.1
  have hl : lv_has ls 4 [(0, .ref (ad q1)), (1, .int p2), (2, .ref (ad q3))] := hl
  unfold s_L_step at hE
  obtain ⟨G0, eG0, hG0, hE⟩ := j_F0o hE
  refine lv_aload_n hx hb dL_step_0 rfl (lv_at hl 2 rfl) ?_
  refine lv_iconst (v := 0) hx hb dL_step_1 (by decide) ?_
  refine lv_aload_n hx hb dL_step_2 rfl (lv_at hl 0 rfl) ?_
  refine lv_iload_n hx hb dL_step_3 rfl (lv_at hl 1 rfl) ?_
  obtain ⟨xx1, exx1, hE⟩ := j_bd hG0 hE
  try dsimp only at hE
  refine jt_vi [.int p2] [.int (0 : Int32), .ref (ad q3)] jc jx jw hA hq1 (by decide) rfl (c_X9_step hl9 hY hq1 (M := M) exx1) sd_L_69 rfl hl.1 (j_hRT hRf hRl hRc hRs rfl rfl rfl rfl) (Nat.le_of_ble_eq_true rfl) dL_step_4 (fun H locs txx1 ce q9 ht jw hce hcv hcl => ?_) (fun H locs uxx1 hu jw => ?_)
  · subst ht
    try dsimp only at hE
    rcases Classical.em (txx1.1 = 1) with t2 | t2
    · rw [if_pos t2] at hE
      rw [t2] at hcl
      refine jw_catch (k := 1) [] (0, 9, 12, 15) [(0, 9, 15, 72)] jc jx htab rfl (by decide) (fun z hz => absurd hz List.not_mem_nil) (by decide) (by decide) wd_2_125 hce hcv hcl ?_
      refine lv_astore_n (lv' := [(3, .ref q9), (0, .ref (ad q1)), (1, .int p2), (2, .ref (ad q3))]) hx hb dL_step_12 rfl hl (by decide) rfl (fun ls hl => ?_)
      refine lv_iconst (v := 1) hx hb dL_step_13 (by decide) ?_
      exact kr _ _ _ _ _ _ _ _ (congrArg Prod.fst (Option.some.inj (j_ret eG0 hE))) (congrArg Prod.snd (Option.some.inj (j_ret eG0 hE))) jw (j_cs hRc hRs rfl rfl) dL_step_14
    rw [if_neg t2] at hE
    rcases Classical.em (txx1.1 = 3) with t3 | t3
    · rw [if_pos t3] at hE
      rw [t3] at hcl
      refine jw_catch (k := 3) [(0, 9, 12, 15)] (0, 9, 15, 72) [] jc jx htab rfl (by decide) (List.forall_mem_cons.mpr ⟨⟨by decide, 1, by decide, by decide, wd_2_125⟩, (fun z hz => absurd hz List.not_mem_nil)⟩) (by decide) (by decide) wd_4_103 hce hcv hcl ?_
      refine lv_astore_n (lv' := [(3, .ref q9), (0, .ref (ad q1)), (1, .int p2), (2, .ref (ad q3))]) hx hb dL_step_15 rfl hl (by decide) rfl (fun ls hl => ?_)
      refine lv_iconst (v := 2) hx hb dL_step_16 (by decide) ?_
      exact kr _ _ _ _ _ _ _ _ (congrArg Prod.fst (Option.some.inj (j_ret eG0 hE))) (congrArg Prod.snd (Option.some.inj (j_ret eG0 hE))) jw (j_cs hRc hRs rfl rfl) dL_step_17
    rw [if_neg t3] at hE
    exact absurd hE (hG0 _)
  subst hu
  try dsimp only at hE
  refine lv_i2l (v := Int32.toInt64 uxx1.1) hx hb dL_step_7 rfl ?_
  rcases Classical.em (j_g (0 : Int32) (j_ln Y q3)) with g4 | g4
  case inr => rw [if_neg g4] at hE; exact absurd hE (hG0 _)
  rw [if_pos g4] at hE
  refine jr_last jc jw hq3 (j_g_in g4) dL_step_8 (fun H locs jw => ?_)
  obtain ⟨mm5, emm5, hE⟩ := j_lv hE
  rw [← emm5] at jw
  try dsimp only at hE
  refine lv_goto (tgt := 18) hx hb dL_step_9 (by decide) ?_
  refine lv_iconst (v := 0) hx hb dL_step_18 (by decide) ?_
  exact kr _ _ _ _ _ _ _ _ (congrArg Prod.fst (Option.some.inj (j_ret eG0 hE))) (congrArg Prod.snd (Option.some.inj (j_ret eG0 hE))) jw (j_cs hRc hRs rfl rfl) dL_step_19
def s_L_similarity (Y : JY) (M : JM) (q1 : Nat) (q2 : Nat) : Option (Int32 × JM) := (s_X9_similarity Y M q1).bind fun xx1 => match xx1 with | Sum.inl txx1 => (if txx1.1 = 1 then (some ((1 : Int32), txx1.2)) else (if txx1.1 = 4 then (some ((2 : Int32), txx1.2)) else (none))) | Sum.inr uxx1 => (if j_g (0 : Int32) (j_ln Y q2) then (lt_ (j_upd uxx1.2 q2 (0 : Int32).toNatClampNeg uxx1.1) fun mm5 => some ((0 : Int32), mm5)) else none)
set_option maxRecDepth 100000 in
set_option maxHeartbeats 4000000 in
theorem c_L_similarity {D : va_G} {Y : JY} {ty : Nat → ClassId} {ad : Nat → Nat} {sz : Nat} {l : Launch} {M : JM} (hl9 : l.stackTraces = false) (hY : j_ok Y) {q1 : Nat} {q2 : Nat} (hq1 : j_kd Y q1 = 9) (hq2 : j_kd Y q2 = 105) {r : Int32 × JM} (hE : s_L_similarity Y M q1 q2 = some r) : JMw D Y ty ad sz l yL_similarity cL_similarity 3 [(0, 7, 10, 15), (0, 7, 13, 78)] 8 131 2 12 [.ref (ad q1), .ref (ad q2)] M r.1 r.2 := by
  refine j_ofw hY (by decide +kernel) (Nat.le_of_ble_eq_true rfl) rfl (fun p e s m below meth c args R Q A hRf hRl hRc hRs hA jc jx htab jw kr ls hl => ?_)
  have hx := jc.1
  have hb := jc.2.1
  have hl : lv_has ls 3 [(0, .ref (ad q1)), (1, .ref (ad q2))] := hl
  unfold s_L_similarity at hE
  obtain ⟨G0, eG0, hG0, hE⟩ := j_F0o hE
  refine lv_aload_n hx hb dL_similarity_0 rfl (lv_at hl 1 rfl) ?_
  refine lv_iconst (v := 0) hx hb dL_similarity_1 (by decide) ?_
  refine lv_aload_n hx hb dL_similarity_2 rfl (lv_at hl 0 rfl) ?_
  obtain ⟨xx1, exx1, hE⟩ := j_bd hG0 hE
  try dsimp only at hE
  refine jt_vd [] [.int (0 : Int32), .ref (ad q2)] jc jx jw hA hq1 (by decide) rfl (c_X9_similarity hl9 hY hq1 (M := M) exx1) sd_L_74 rfl hl.1 (j_hRT hRf hRl hRc hRs rfl rfl rfl rfl) (Nat.le_of_ble_eq_true rfl) dL_similarity_3 (fun H locs txx1 ce q9 ht jw hce hcv hcl => ?_) (fun H locs uxx1 hu jw => ?_)
  · subst ht
    try dsimp only at hE
    rcases Classical.em (txx1.1 = 1) with t2 | t2
    · rw [if_pos t2] at hE
      rw [t2] at hcl
      refine jw_catch (k := 1) [] (0, 7, 10, 15) [(0, 7, 13, 78)] jc jx htab rfl (by decide) (fun z hz => absurd hz List.not_mem_nil) (by decide) (by decide) wd_2_125 hce hcv hcl ?_
      refine lv_astore_n (lv' := [(2, .ref q9), (0, .ref (ad q1)), (1, .ref (ad q2))]) hx hb dL_similarity_10 rfl hl (by decide) rfl (fun ls hl => ?_)
      refine lv_iconst (v := 1) hx hb dL_similarity_11 (by decide) ?_
      exact kr _ _ _ _ _ _ _ _ (congrArg Prod.fst (Option.some.inj (j_ret eG0 hE))) (congrArg Prod.snd (Option.some.inj (j_ret eG0 hE))) jw (j_cs hRc hRs rfl rfl) dL_similarity_12
    rw [if_neg t2] at hE
    rcases Classical.em (txx1.1 = 4) with t3 | t3
    · rw [if_pos t3] at hE
      rw [t3] at hcl
      refine jw_catch (k := 4) [(0, 7, 10, 15)] (0, 7, 13, 78) [] jc jx htab rfl (by decide) (List.forall_mem_cons.mpr ⟨⟨by decide, 1, by decide, by decide, wd_2_125⟩, (fun z hz => absurd hz List.not_mem_nil)⟩) (by decide) (by decide) wd_4_131 hce hcv hcl ?_
      refine lv_astore_n (lv' := [(2, .ref q9), (0, .ref (ad q1)), (1, .ref (ad q2))]) hx hb dL_similarity_13 rfl hl (by decide) rfl (fun ls hl => ?_)
      refine lv_iconst (v := 2) hx hb dL_similarity_14 (by decide) ?_
      exact kr _ _ _ _ _ _ _ _ (congrArg Prod.fst (Option.some.inj (j_ret eG0 hE))) (congrArg Prod.snd (Option.some.inj (j_ret eG0 hE))) jw (j_cs hRc hRs rfl rfl) dL_similarity_15
    rw [if_neg t3] at hE
    exact absurd hE (hG0 _)
  subst hu
  try dsimp only at hE
  rcases Classical.em (j_g (0 : Int32) (j_ln Y q2)) with g4 | g4
  case inr => rw [if_neg g4] at hE; exact absurd hE (hG0 _)
  rw [if_pos g4] at hE
  refine jr_dast jc jw hq2 (j_g_in g4) dL_similarity_6 (fun H locs jw => ?_)
  obtain ⟨mm5, emm5, hE⟩ := j_lv hE
  rw [← emm5] at jw
  try dsimp only at hE
  refine lv_goto (tgt := 16) hx hb dL_similarity_7 (by decide) ?_
  refine lv_iconst (v := 0) hx hb dL_similarity_16 (by decide) ?_
  exact kr _ _ _ _ _ _ _ _ (congrArg Prod.fst (Option.some.inj (j_ret eG0 hE))) (congrArg Prod.snd (Option.some.inj (j_ret eG0 hE))) jw (j_cs hRc hRs rfl rfl) dL_similarity_17
def s_L_findMoves (Y : JY) (M : JM) (q1 : Nat) (p2 : Int32) (q3 : Nat) : Option (Int32 × JM) := (s_X9_findMoves Y M q1 p2).bind fun xx1 => match xx1 with | Sum.inl txx1 => (if txx1.1 = 0 then (some ((1 : Int32), txx1.2)) else (if txx1.1 = 1 then (some ((2 : Int32), txx1.2)) else (none))) | Sum.inr uxx1 => (if j_g (0 : Int32) (j_ln Y q3) then (lt_ (j_up uxx1.2 q3 (0 : Int32).toNatClampNeg uxx1.1) fun mm5 => some ((0 : Int32), mm5)) else none)
set_option maxRecDepth 100000 in
set_option maxHeartbeats 4000000 in
theorem c_L_findMoves {D : va_G} {Y : JY} {ty : Nat → ClassId} {ad : Nat → Nat} {sz : Nat} {l : Launch} {M : JM} (hl9 : l.stackTraces = false) (hY : j_ok Y) {q1 : Nat} {p2 : Int32} {q3 : Nat} (hq1 : j_kd Y q1 = 9) (hq3 : j_kd Y q3 = 104) {r : Int32 × JM} (hE : s_L_findMoves Y M q1 p2 q3 = some r) : JMw D Y ty ad sz l yL_findMoves cL_findMoves 4 [(0, 9, 12, 13), (0, 9, 15, 15)] 8 143 1 6 [.ref (ad q1), .int p2, .ref (ad q3)] M r.1 r.2 := by
  refine j_ofw hY (by decide +kernel) (Nat.le_of_ble_eq_true rfl) rfl (fun p e s m below meth c args R Q A hRf hRl hRc hRs hA jc jx htab jw kr ls hl => ?_)
  have hx := jc.1
  have hb := jc.2.1
  have hl : lv_has ls 4 [(0, .ref (ad q1)), (1, .int p2), (2, .ref (ad q3))] := hl
  unfold s_L_findMoves at hE
  obtain ⟨G0, eG0, hG0, hE⟩ := j_F0o hE
  refine lv_aload_n hx hb dL_findMoves_0 rfl (lv_at hl 2 rfl) ?_
  refine lv_iconst (v := 0) hx hb dL_findMoves_1 (by decide) ?_
  refine lv_aload_n hx hb dL_findMoves_2 rfl (lv_at hl 0 rfl) ?_
  refine lv_iload_n hx hb dL_findMoves_3 rfl (lv_at hl 1 rfl) ?_
  obtain ⟨xx1, exx1, hE⟩ := j_bd hG0 hE
  try dsimp only at hE
  refine jt_vi [.int p2] [.int (0 : Int32), .ref (ad q3)] jc jx jw hA hq1 (by decide) rfl (c_X9_findMoves hl9 hY hq1 (M := M) exx1) sd_L_80 rfl hl.1 (j_hRT hRf hRl hRc hRs rfl rfl rfl rfl) (Nat.le_of_ble_eq_true rfl) dL_findMoves_4 (fun H locs txx1 ce q9 ht jw hce hcv hcl => ?_) (fun H locs uxx1 hu jw => ?_)
  · subst ht
    try dsimp only at hE
    rcases Classical.em (txx1.1 = 0) with t2 | t2
    · rw [if_pos t2] at hE
      rw [t2] at hcl
      refine jw_catch (k := 0) [] (0, 9, 12, 13) [(0, 9, 15, 15)] jc jx htab rfl (by decide) (fun z hz => absurd hz List.not_mem_nil) (by decide) (by decide) wd_2_124 hce hcv hcl ?_
      refine lv_astore_n (lv' := [(3, .ref q9), (0, .ref (ad q1)), (1, .int p2), (2, .ref (ad q3))]) hx hb dL_findMoves_12 rfl hl (by decide) rfl (fun ls hl => ?_)
      refine lv_iconst (v := 1) hx hb dL_findMoves_13 (by decide) ?_
      exact kr _ _ _ _ _ _ _ _ (congrArg Prod.fst (Option.some.inj (j_ret eG0 hE))) (congrArg Prod.snd (Option.some.inj (j_ret eG0 hE))) jw (j_cs hRc hRs rfl rfl) dL_findMoves_14
    rw [if_neg t2] at hE
    rcases Classical.em (txx1.1 = 1) with t3 | t3
    · rw [if_pos t3] at hE
      rw [t3] at hcl
      refine jw_catch (k := 1) [(0, 9, 12, 13)] (0, 9, 15, 15) [] jc jx htab rfl (by decide) (List.forall_mem_cons.mpr ⟨⟨by decide, 0, by decide, by decide, wd_2_124⟩, (fun z hz => absurd hz List.not_mem_nil)⟩) (by decide) (by decide) wd_2_125 hce hcv hcl ?_
      refine lv_astore_n (lv' := [(3, .ref q9), (0, .ref (ad q1)), (1, .int p2), (2, .ref (ad q3))]) hx hb dL_findMoves_15 rfl hl (by decide) rfl (fun ls hl => ?_)
      refine lv_iconst (v := 2) hx hb dL_findMoves_16 (by decide) ?_
      exact kr _ _ _ _ _ _ _ _ (congrArg Prod.fst (Option.some.inj (j_ret eG0 hE))) (congrArg Prod.snd (Option.some.inj (j_ret eG0 hE))) jw (j_cs hRc hRs rfl rfl) dL_findMoves_17
    rw [if_neg t3] at hE
    exact absurd hE (hG0 _)
  subst hu
  try dsimp only at hE
  refine lv_i2l (v := Int32.toInt64 uxx1.1) hx hb dL_findMoves_7 rfl ?_
  rcases Classical.em (j_g (0 : Int32) (j_ln Y q3)) with g4 | g4
  case inr => rw [if_neg g4] at hE; exact absurd hE (hG0 _)
  rw [if_pos g4] at hE
  refine jr_last jc jw hq3 (j_g_in g4) dL_findMoves_8 (fun H locs jw => ?_)
  obtain ⟨mm5, emm5, hE⟩ := j_lv hE
  rw [← emm5] at jw
  try dsimp only at hE
  refine lv_goto (tgt := 18) hx hb dL_findMoves_9 (by decide) ?_
  refine lv_iconst (v := 0) hx hb dL_findMoves_18 (by decide) ?_
  exact kr _ _ _ _ _ _ _ _ (congrArg Prod.fst (Option.some.inj (j_ret eG0 hE))) (congrArg Prod.snd (Option.some.inj (j_ret eG0 hE))) jw (j_cs hRc hRs rfl rfl) dL_findMoves_19
def s_L_move (Y : JY) (M : JM) (q1 : Nat) (p2 : Int32) (p3 : Int32) (q4 : Nat) : Option (Int32 × JM) := (s_X9_move Y M q1 p2 p3).bind fun xx1 => match xx1 with | Sum.inl txx1 => (if txx1.1 = 2 then (some ((1 : Int32), txx1.2)) else (if txx1.1 = 0 then (some ((2 : Int32), txx1.2)) else (none))) | Sum.inr uxx1 => (if j_g (0 : Int32) (j_ln Y q4) then (lt_ (j_up uxx1.2 q4 (0 : Int32).toNatClampNeg uxx1.1) fun mm5 => some ((0 : Int32), mm5)) else none)
set_option maxRecDepth 100000 in
set_option maxHeartbeats 4000000 in
theorem c_L_move {D : va_G} {Y : JY} {ty : Nat → ClassId} {ad : Nat → Nat} {sz : Nat} {l : Launch} {M : JM} (hl9 : l.stackTraces = false) (hY : j_ok Y) {q1 : Nat} {p2 : Int32} {p3 : Int32} {q4 : Nat} (hq1 : j_kd Y q1 = 9) (hq4 : j_kd Y q4 = 104) {r : Int32 × JM} (hE : s_L_move Y M q1 p2 p3 q4 = some r) : JMw D Y ty ad sz l yL_move cL_move 5 [(0, 10, 13, 21), (0, 10, 17, 13)] 8 135 1 6 [.ref (ad q1), .int p2, .int p3, .ref (ad q4)] M r.1 r.2 := by
  refine j_ofw hY (by decide +kernel) (Nat.le_of_ble_eq_true rfl) rfl (fun p e s m below meth c args R Q A hRf hRl hRc hRs hA jc jx htab jw kr ls hl => ?_)
  have hx := jc.1
  have hb := jc.2.1
  have hl : lv_has ls 5 [(0, .ref (ad q1)), (1, .int p2), (2, .int p3), (3, .ref (ad q4))] := hl
  unfold s_L_move at hE
  obtain ⟨G0, eG0, hG0, hE⟩ := j_F0o hE
  refine lv_aload_n hx hb dL_move_0 rfl (lv_at hl 3 rfl) ?_
  refine lv_iconst (v := 0) hx hb dL_move_1 (by decide) ?_
  refine lv_aload_n hx hb dL_move_2 rfl (lv_at hl 0 rfl) ?_
  refine lv_iload_n hx hb dL_move_3 rfl (lv_at hl 1 rfl) ?_
  refine lv_iload_n hx hb dL_move_4 rfl (lv_at hl 2 rfl) ?_
  obtain ⟨xx1, exx1, hE⟩ := j_bd hG0 hE
  try dsimp only at hE
  refine jt_vi [.int p2, .int p3] [.int (0 : Int32), .ref (ad q4)] jc jx jw hA hq1 (by decide) rfl (c_X9_move hl9 hY hq1 (M := M) exx1) sd_L_83 rfl hl.1 (j_hRT hRf hRl hRc hRs rfl rfl rfl rfl) (Nat.le_of_ble_eq_true rfl) dL_move_5 (fun H locs txx1 ce q9 ht jw hce hcv hcl => ?_) (fun H locs uxx1 hu jw => ?_)
  · subst ht
    try dsimp only at hE
    rcases Classical.em (txx1.1 = 2) with t2 | t2
    · rw [if_pos t2] at hE
      rw [t2] at hcl
      refine jw_catch (k := 2) [] (0, 10, 13, 21) [(0, 10, 17, 13)] jc jx htab rfl (by decide) (fun z hz => absurd hz List.not_mem_nil) (by decide) (by decide) wd_3_5 hce hcv hcl ?_
      refine lv_astore (lv' := [(4, .ref q9), (0, .ref (ad q1)), (1, .int p2), (2, .int p3), (3, .ref (ad q4))]) hx hb dL_move_13 hl (by decide) rfl (fun ls hl => ?_)
      refine lv_iconst (v := 1) hx hb dL_move_15 (by decide) ?_
      exact kr _ _ _ _ _ _ _ _ (congrArg Prod.fst (Option.some.inj (j_ret eG0 hE))) (congrArg Prod.snd (Option.some.inj (j_ret eG0 hE))) jw (j_cs hRc hRs rfl rfl) dL_move_16
    rw [if_neg t2] at hE
    rcases Classical.em (txx1.1 = 0) with t3 | t3
    · rw [if_pos t3] at hE
      rw [t3] at hcl
      refine jw_catch (k := 0) [(0, 10, 13, 21)] (0, 10, 17, 13) [] jc jx htab rfl (by decide) (List.forall_mem_cons.mpr ⟨⟨by decide, 2, by decide, by decide, wd_3_5⟩, (fun z hz => absurd hz List.not_mem_nil)⟩) (by decide) (by decide) wd_2_124 hce hcv hcl ?_
      refine lv_astore (lv' := [(4, .ref q9), (0, .ref (ad q1)), (1, .int p2), (2, .int p3), (3, .ref (ad q4))]) hx hb dL_move_17 hl (by decide) rfl (fun ls hl => ?_)
      refine lv_iconst (v := 2) hx hb dL_move_19 (by decide) ?_
      exact kr _ _ _ _ _ _ _ _ (congrArg Prod.fst (Option.some.inj (j_ret eG0 hE))) (congrArg Prod.snd (Option.some.inj (j_ret eG0 hE))) jw (j_cs hRc hRs rfl rfl) dL_move_20
    rw [if_neg t3] at hE
    exact absurd hE (hG0 _)
  subst hu
  try dsimp only at hE
  refine lv_i2l (v := Int32.toInt64 uxx1.1) hx hb dL_move_8 rfl ?_
  rcases Classical.em (j_g (0 : Int32) (j_ln Y q4)) with g4 | g4
  case inr => rw [if_neg g4] at hE; exact absurd hE (hG0 _)
  rw [if_pos g4] at hE
  refine jr_last jc jw hq4 (j_g_in g4) dL_move_9 (fun H locs jw => ?_)
  obtain ⟨mm5, emm5, hE⟩ := j_lv hE
  rw [← emm5] at jw
  try dsimp only at hE
  refine lv_goto (tgt := 21) hx hb dL_move_10 (by decide) ?_
  refine lv_iconst (v := 0) hx hb dL_move_21 (by decide) ?_
  exact kr _ _ _ _ _ _ _ _ (congrArg Prod.fst (Option.some.inj (j_ret eG0 hE))) (congrArg Prod.snd (Option.some.inj (j_ret eG0 hE))) jw (j_cs hRc hRs rfl rfl) dL_move_22
def s_L_merge (Y : JY) (M : JM) (q1 : Nat) (p2 : Int32) (p3 : Int32) (p4 : Int32) (q5 : Nat) : Option (Int32 × JM) := (s_X9_merge Y M q1 p2 p3 p4).bind fun xx1 => match xx1 with | Sum.inl txx1 => (if txx1.1 = 0 then (some ((1 : Int32), txx1.2)) else (none)) | Sum.inr uxx1 => (if j_g (0 : Int32) (j_ln Y q5) then (lt_ (j_up uxx1.2 q5 (0 : Int32).toNatClampNeg uxx1.1) fun mm4 => some ((0 : Int32), mm4)) else none)
set_option maxRecDepth 100000 in
set_option maxHeartbeats 4000000 in
theorem c_L_merge {D : va_G} {Y : JY} {ty : Nat → ClassId} {ad : Nat → Nat} {sz : Nat} {l : Launch} {M : JM} (hl9 : l.stackTraces = false) (hY : j_ok Y) {q1 : Nat} {p2 : Int32} {p3 : Int32} {p4 : Int32} {q5 : Nat} (hq1 : j_kd Y q1 = 9) (hq5 : j_kd Y q5 = 104) {r : Int32 × JM} (hE : s_L_merge Y M q1 p2 p3 p4 q5 = some r) : JMw D Y ty ad sz l yL_merge cL_merge 6 [(0, 12, 15, 13)] 8 191 3 18 [.ref (ad q1), .int p2, .int p3, .int p4, .ref (ad q5)] M r.1 r.2 := by
  refine j_ofw hY (by decide +kernel) (Nat.le_of_ble_eq_true rfl) rfl (fun p e s m below meth c args R Q A hRf hRl hRc hRs hA jc jx htab jw kr ls hl => ?_)
  have hx := jc.1
  have hb := jc.2.1
  have hl : lv_has ls 6 [(0, .ref (ad q1)), (1, .int p2), (2, .int p3), (3, .int p4), (4, .ref (ad q5))] := hl
  unfold s_L_merge at hE
  obtain ⟨G0, eG0, hG0, hE⟩ := j_F0o hE
  refine lv_aload hx hb dL_merge_0 (lv_at hl 4 rfl) ?_
  refine lv_iconst (v := 0) hx hb dL_merge_2 (by decide) ?_
  refine lv_aload_n hx hb dL_merge_3 rfl (lv_at hl 0 rfl) ?_
  refine lv_iload_n hx hb dL_merge_4 rfl (lv_at hl 1 rfl) ?_
  refine lv_iload_n hx hb dL_merge_5 rfl (lv_at hl 2 rfl) ?_
  refine lv_iload_n hx hb dL_merge_6 rfl (lv_at hl 3 rfl) ?_
  obtain ⟨xx1, exx1, hE⟩ := j_bd hG0 hE
  try dsimp only at hE
  refine jt_vi [.int p2, .int p3, .int p4] [.int (0 : Int32), .ref (ad q5)] jc jx jw hA hq1 (by decide) rfl (c_X9_merge hl9 hY hq1 (M := M) exx1) sd_L_86 rfl hl.1 (j_hRT hRf hRl hRc hRs rfl rfl rfl rfl) (Nat.le_of_ble_eq_true rfl) dL_merge_7 (fun H locs txx1 ce q9 ht jw hce hcv hcl => ?_) (fun H locs uxx1 hu jw => ?_)
  · subst ht
    try dsimp only at hE
    rcases Classical.em (txx1.1 = 0) with t2 | t2
    · rw [if_pos t2] at hE
      rw [t2] at hcl
      refine jw_catch (k := 0) [] (0, 12, 15, 13) [] jc jx htab rfl (by decide) (fun z hz => absurd hz List.not_mem_nil) (by decide) (by decide) wd_2_124 hce hcv hcl ?_
      refine lv_astore (lv' := [(5, .ref q9), (0, .ref (ad q1)), (1, .int p2), (2, .int p3), (3, .int p4), (4, .ref (ad q5))]) hx hb dL_merge_15 hl (by decide) rfl (fun ls hl => ?_)
      refine lv_iconst (v := 1) hx hb dL_merge_17 (by decide) ?_
      exact kr _ _ _ _ _ _ _ _ (congrArg Prod.fst (Option.some.inj (j_ret eG0 hE))) (congrArg Prod.snd (Option.some.inj (j_ret eG0 hE))) jw (j_cs hRc hRs rfl rfl) dL_merge_18
    rw [if_neg t2] at hE
    exact absurd hE (hG0 _)
  subst hu
  try dsimp only at hE
  refine lv_i2l (v := Int32.toInt64 uxx1.1) hx hb dL_merge_10 rfl ?_
  rcases Classical.em (j_g (0 : Int32) (j_ln Y q5)) with g3 | g3
  case inr => rw [if_neg g3] at hE; exact absurd hE (hG0 _)
  rw [if_pos g3] at hE
  refine jr_last jc jw hq5 (j_g_in g3) dL_merge_11 (fun H locs jw => ?_)
  obtain ⟨mm4, emm4, hE⟩ := j_lv hE
  rw [← emm4] at jw
  try dsimp only at hE
  refine lv_goto (tgt := 19) hx hb dL_merge_12 (by decide) ?_
  refine lv_iconst (v := 0) hx hb dL_merge_19 (by decide) ?_
  exact kr _ _ _ _ _ _ _ _ (congrArg Prod.fst (Option.some.inj (j_ret eG0 hE))) (congrArg Prod.snd (Option.some.inj (j_ret eG0 hE))) jw (j_cs hRc hRs rfl rfl) dL_merge_20
def s_L_chunks (Y : JY) (M : JM) (q1 : Nat) (q2 : Nat) : Option (Int32 × JM) := (s_X9_chunks Y M q1).bind fun xx1 => match xx1 with | Sum.inl txx1 => (if txx1.1 = 1 then (some ((1 : Int32), txx1.2)) else (none)) | Sum.inr uxx1 => (if j_g (0 : Int32) (j_ln Y q2) then (lt_ (j_up uxx1.2 q2 (0 : Int32).toNatClampNeg uxx1.1) fun mm4 => some ((0 : Int32), mm4)) else none)
set_option maxRecDepth 100000 in
set_option maxHeartbeats 4000000 in
theorem c_L_chunks {D : va_G} {Y : JY} {ty : Nat → ClassId} {ad : Nat → Nat} {sz : Nat} {l : Launch} {M : JM} (hl9 : l.stackTraces = false) (hY : j_ok Y) {q1 : Nat} {q2 : Nat} (hq1 : j_kd Y q1 = 9) (hq2 : j_kd Y q2 = 104) {r : Int32 × JM} (hE : s_L_chunks Y M q1 q2 = some r) : JMw D Y ty ad sz l yL_chunks cL_chunks 3 [(0, 8, 11, 15)] 8 130 1 6 [.ref (ad q1), .ref (ad q2)] M r.1 r.2 := by
  refine j_ofw hY (by decide +kernel) (Nat.le_of_ble_eq_true rfl) rfl (fun p e s m below meth c args R Q A hRf hRl hRc hRs hA jc jx htab jw kr ls hl => ?_)
  have hx := jc.1
  have hb := jc.2.1
  have hl : lv_has ls 3 [(0, .ref (ad q1)), (1, .ref (ad q2))] := hl
  unfold s_L_chunks at hE
  obtain ⟨G0, eG0, hG0, hE⟩ := j_F0o hE
  refine lv_aload_n hx hb dL_chunks_0 rfl (lv_at hl 1 rfl) ?_
  refine lv_iconst (v := 0) hx hb dL_chunks_1 (by decide) ?_
  refine lv_aload_n hx hb dL_chunks_2 rfl (lv_at hl 0 rfl) ?_
  obtain ⟨xx1, exx1, hE⟩ := j_bd hG0 hE
  try dsimp only at hE
  refine jt_vi [] [.int (0 : Int32), .ref (ad q2)] jc jx jw hA hq1 (by decide) rfl (c_X9_chunks hl9 hY hq1 (M := M) exx1) sd_L_89 rfl hl.1 (j_hRT hRf hRl hRc hRs rfl rfl rfl rfl) (Nat.le_of_ble_eq_true rfl) dL_chunks_3 (fun H locs txx1 ce q9 ht jw hce hcv hcl => ?_) (fun H locs uxx1 hu jw => ?_)
  · subst ht
    try dsimp only at hE
    rcases Classical.em (txx1.1 = 1) with t2 | t2
    · rw [if_pos t2] at hE
      rw [t2] at hcl
      refine jw_catch (k := 1) [] (0, 8, 11, 15) [] jc jx htab rfl (by decide) (fun z hz => absurd hz List.not_mem_nil) (by decide) (by decide) wd_2_125 hce hcv hcl ?_
      refine lv_astore_n (lv' := [(2, .ref q9), (0, .ref (ad q1)), (1, .ref (ad q2))]) hx hb dL_chunks_11 rfl hl (by decide) rfl (fun ls hl => ?_)
      refine lv_iconst (v := 1) hx hb dL_chunks_12 (by decide) ?_
      exact kr _ _ _ _ _ _ _ _ (congrArg Prod.fst (Option.some.inj (j_ret eG0 hE))) (congrArg Prod.snd (Option.some.inj (j_ret eG0 hE))) jw (j_cs hRc hRs rfl rfl) dL_chunks_13
    rw [if_neg t2] at hE
    exact absurd hE (hG0 _)
  subst hu
  try dsimp only at hE
  refine lv_i2l (v := Int32.toInt64 uxx1.1) hx hb dL_chunks_6 rfl ?_
  rcases Classical.em (j_g (0 : Int32) (j_ln Y q2)) with g3 | g3
  case inr => rw [if_neg g3] at hE; exact absurd hE (hG0 _)
  rw [if_pos g3] at hE
  refine jr_last jc jw hq2 (j_g_in g3) dL_chunks_7 (fun H locs jw => ?_)
  obtain ⟨mm4, emm4, hE⟩ := j_lv hE
  rw [← emm4] at jw
  try dsimp only at hE
  refine lv_goto (tgt := 14) hx hb dL_chunks_8 (by decide) ?_
  refine lv_iconst (v := 0) hx hb dL_chunks_14 (by decide) ?_
  exact kr _ _ _ _ _ _ _ _ (congrArg Prod.fst (Option.some.inj (j_ret eG0 hE))) (congrArg Prod.snd (Option.some.inj (j_ret eG0 hE))) jw (j_cs hRc hRs rfl rfl) dL_chunks_15
def s_L_chunk (Y : JY) (M : JM) (q1 : Nat) (p2 : Int32) (p3 : Int32) (q4 : Nat) : Option (Int32 × JM) := (s_X9_chunk Y M q1 p2 p3).bind fun xx1 => match xx1 with | Sum.inl txx1 => (if txx1.1 = 1 then (some ((1 : Int32), txx1.2)) else (if txx1.1 = 2 then (some ((2 : Int32), txx1.2)) else (if txx1.1 = 0 then (some ((3 : Int32), txx1.2)) else (none)))) | Sum.inr uxx1 => (if j_g (0 : Int32) (j_ln Y q4) then (lt_ (j_up uxx1.2 q4 (0 : Int32).toNatClampNeg uxx1.1) fun mm6 => some ((0 : Int32), mm6)) else none)
set_option maxRecDepth 100000 in
set_option maxHeartbeats 4000000 in
theorem c_L_chunk {D : va_G} {Y : JY} {ty : Nat → ClassId} {ad : Nat → Nat} {sz : Nat} {l : Launch} {M : JM} (hl9 : l.stackTraces = false) (hY : j_ok Y) {q1 : Nat} {p2 : Int32} {p3 : Int32} {q4 : Nat} (hq1 : j_kd Y q1 = 9) (hq4 : j_kd Y q4 = 104) {r : Int32 × JM} (hE : s_L_chunk Y M q1 p2 p3 q4 = some r) : JMw D Y ty ad sz l yL_chunk cL_chunk 5 [(0, 10, 13, 15), (0, 10, 17, 21), (0, 10, 21, 13)] 8 135 2 12 [.ref (ad q1), .int p2, .int p3, .ref (ad q4)] M r.1 r.2 := by
  refine j_ofw hY (by decide +kernel) (Nat.le_of_ble_eq_true rfl) rfl (fun p e s m below meth c args R Q A hRf hRl hRc hRs hA jc jx htab jw kr ls hl => ?_)
  have hx := jc.1
  have hb := jc.2.1
  have hl : lv_has ls 5 [(0, .ref (ad q1)), (1, .int p2), (2, .int p3), (3, .ref (ad q4))] := hl
  unfold s_L_chunk at hE
  obtain ⟨G0, eG0, hG0, hE⟩ := j_F0o hE
  refine lv_aload_n hx hb dL_chunk_0 rfl (lv_at hl 3 rfl) ?_
  refine lv_iconst (v := 0) hx hb dL_chunk_1 (by decide) ?_
  refine lv_aload_n hx hb dL_chunk_2 rfl (lv_at hl 0 rfl) ?_
  refine lv_iload_n hx hb dL_chunk_3 rfl (lv_at hl 1 rfl) ?_
  refine lv_iload_n hx hb dL_chunk_4 rfl (lv_at hl 2 rfl) ?_
  obtain ⟨xx1, exx1, hE⟩ := j_bd hG0 hE
  try dsimp only at hE
  refine jt_vi [.int p2, .int p3] [.int (0 : Int32), .ref (ad q4)] jc jx jw hA hq1 (by decide) rfl (c_X9_chunk hl9 hY hq1 (M := M) exx1) sd_L_92 rfl hl.1 (j_hRT hRf hRl hRc hRs rfl rfl rfl rfl) (Nat.le_of_ble_eq_true rfl) dL_chunk_5 (fun H locs txx1 ce q9 ht jw hce hcv hcl => ?_) (fun H locs uxx1 hu jw => ?_)
  · subst ht
    try dsimp only at hE
    rcases Classical.em (txx1.1 = 1) with t2 | t2
    · rw [if_pos t2] at hE
      rw [t2] at hcl
      refine jw_catch (k := 1) [] (0, 10, 13, 15) [(0, 10, 17, 21), (0, 10, 21, 13)] jc jx htab rfl (by decide) (fun z hz => absurd hz List.not_mem_nil) (by decide) (by decide) wd_2_125 hce hcv hcl ?_
      refine lv_astore (lv' := [(4, .ref q9), (0, .ref (ad q1)), (1, .int p2), (2, .int p3), (3, .ref (ad q4))]) hx hb dL_chunk_13 hl (by decide) rfl (fun ls hl => ?_)
      refine lv_iconst (v := 1) hx hb dL_chunk_15 (by decide) ?_
      exact kr _ _ _ _ _ _ _ _ (congrArg Prod.fst (Option.some.inj (j_ret eG0 hE))) (congrArg Prod.snd (Option.some.inj (j_ret eG0 hE))) jw (j_cs hRc hRs rfl rfl) dL_chunk_16
    rw [if_neg t2] at hE
    rcases Classical.em (txx1.1 = 2) with t3 | t3
    · rw [if_pos t3] at hE
      rw [t3] at hcl
      refine jw_catch (k := 2) [(0, 10, 13, 15)] (0, 10, 17, 21) [(0, 10, 21, 13)] jc jx htab rfl (by decide) (List.forall_mem_cons.mpr ⟨⟨by decide, 1, by decide, by decide, wd_2_125⟩, (fun z hz => absurd hz List.not_mem_nil)⟩) (by decide) (by decide) wd_3_5 hce hcv hcl ?_
      refine lv_astore (lv' := [(4, .ref q9), (0, .ref (ad q1)), (1, .int p2), (2, .int p3), (3, .ref (ad q4))]) hx hb dL_chunk_17 hl (by decide) rfl (fun ls hl => ?_)
      refine lv_iconst (v := 2) hx hb dL_chunk_19 (by decide) ?_
      exact kr _ _ _ _ _ _ _ _ (congrArg Prod.fst (Option.some.inj (j_ret eG0 hE))) (congrArg Prod.snd (Option.some.inj (j_ret eG0 hE))) jw (j_cs hRc hRs rfl rfl) dL_chunk_20
    rw [if_neg t3] at hE
    rcases Classical.em (txx1.1 = 0) with t4 | t4
    · rw [if_pos t4] at hE
      rw [t4] at hcl
      refine jw_catch (k := 0) [(0, 10, 13, 15), (0, 10, 17, 21)] (0, 10, 21, 13) [] jc jx htab rfl (by decide) (List.forall_mem_cons.mpr ⟨⟨by decide, 1, by decide, by decide, wd_2_125⟩, (List.forall_mem_cons.mpr ⟨⟨by decide, 2, by decide, by decide, wd_3_5⟩, (fun z hz => absurd hz List.not_mem_nil)⟩)⟩) (by decide) (by decide) wd_2_124 hce hcv hcl ?_
      refine lv_astore (lv' := [(4, .ref q9), (0, .ref (ad q1)), (1, .int p2), (2, .int p3), (3, .ref (ad q4))]) hx hb dL_chunk_21 hl (by decide) rfl (fun ls hl => ?_)
      refine lv_iconst (v := 3) hx hb dL_chunk_23 (by decide) ?_
      exact kr _ _ _ _ _ _ _ _ (congrArg Prod.fst (Option.some.inj (j_ret eG0 hE))) (congrArg Prod.snd (Option.some.inj (j_ret eG0 hE))) jw (j_cs hRc hRs rfl rfl) dL_chunk_24
    rw [if_neg t4] at hE
    exact absurd hE (hG0 _)
  subst hu
  try dsimp only at hE
  refine lv_i2l (v := Int32.toInt64 uxx1.1) hx hb dL_chunk_8 rfl ?_
  rcases Classical.em (j_g (0 : Int32) (j_ln Y q4)) with g5 | g5
  case inr => rw [if_neg g5] at hE; exact absurd hE (hG0 _)
  rw [if_pos g5] at hE
  refine jr_last jc jw hq4 (j_g_in g5) dL_chunk_9 (fun H locs jw => ?_)
  obtain ⟨mm6, emm6, hE⟩ := j_lv hE
  rw [← emm6] at jw
  try dsimp only at hE
  refine lv_goto (tgt := 25) hx hb dL_chunk_10 (by decide) ?_
  refine lv_iconst (v := 0) hx hb dL_chunk_25 (by decide) ?_
  exact kr _ _ _ _ _ _ _ _ (congrArg Prod.fst (Option.some.inj (j_ret eG0 hE))) (congrArg Prod.snd (Option.some.inj (j_ret eG0 hE))) jw (j_cs hRc hRs rfl rfl) dL_chunk_26
def s_L_resolve (Y : JY) (M : JM) (q1 : Nat) (p2 : Int32) (p3 : Int32) (q4 : Nat) : Option (Int32 × JM) := (s_X9_resolve Y M q1 p2 p3).bind fun xx1 => match xx1 with | Sum.inl txx1 => (if txx1.1 = 1 then (some ((1 : Int32), txx1.2)) else (if txx1.1 = 3 then (some ((2 : Int32), txx1.2)) else (if txx1.1 = 0 then (some ((3 : Int32), txx1.2)) else (none)))) | Sum.inr uxx1 => (if j_g (0 : Int32) (j_ln Y q4) then (lt_ (j_up uxx1.2 q4 (0 : Int32).toNatClampNeg uxx1.1) fun mm6 => some ((0 : Int32), mm6)) else none)
set_option maxRecDepth 100000 in
set_option maxHeartbeats 4000000 in
theorem c_L_resolve {D : va_G} {Y : JY} {ty : Nat → ClassId} {ad : Nat → Nat} {sz : Nat} {l : Launch} {M : JM} (hl9 : l.stackTraces = false) (hY : j_ok Y) {q1 : Nat} {p2 : Int32} {p3 : Int32} {q4 : Nat} (hq1 : j_kd Y q1 = 9) (hq4 : j_kd Y q4 = 104) {r : Int32 × JM} (hE : s_L_resolve Y M q1 p2 p3 q4 = some r) : JMw D Y ty ad sz l yL_resolve cL_resolve 5 [(0, 10, 13, 15), (0, 10, 17, 72), (0, 10, 21, 13)] 8 155 2 12 [.ref (ad q1), .int p2, .int p3, .ref (ad q4)] M r.1 r.2 := by
  refine j_ofw hY (by decide +kernel) (Nat.le_of_ble_eq_true rfl) rfl (fun p e s m below meth c args R Q A hRf hRl hRc hRs hA jc jx htab jw kr ls hl => ?_)
  have hx := jc.1
  have hb := jc.2.1
  have hl : lv_has ls 5 [(0, .ref (ad q1)), (1, .int p2), (2, .int p3), (3, .ref (ad q4))] := hl
  unfold s_L_resolve at hE
  obtain ⟨G0, eG0, hG0, hE⟩ := j_F0o hE
  refine lv_aload_n hx hb dL_resolve_0 rfl (lv_at hl 3 rfl) ?_
  refine lv_iconst (v := 0) hx hb dL_resolve_1 (by decide) ?_
  refine lv_aload_n hx hb dL_resolve_2 rfl (lv_at hl 0 rfl) ?_
  refine lv_iload_n hx hb dL_resolve_3 rfl (lv_at hl 1 rfl) ?_
  refine lv_iload_n hx hb dL_resolve_4 rfl (lv_at hl 2 rfl) ?_
  obtain ⟨xx1, exx1, hE⟩ := j_bd hG0 hE
  try dsimp only at hE
  refine jt_vi [.int p2, .int p3] [.int (0 : Int32), .ref (ad q4)] jc jx jw hA hq1 (by decide) rfl (c_X9_resolve hl9 hY hq1 (M := M) exx1) sd_L_95 rfl hl.1 (j_hRT hRf hRl hRc hRs rfl rfl rfl rfl) (Nat.le_of_ble_eq_true rfl) dL_resolve_5 (fun H locs txx1 ce q9 ht jw hce hcv hcl => ?_) (fun H locs uxx1 hu jw => ?_)
  · subst ht
    try dsimp only at hE
    rcases Classical.em (txx1.1 = 1) with t2 | t2
    · rw [if_pos t2] at hE
      rw [t2] at hcl
      refine jw_catch (k := 1) [] (0, 10, 13, 15) [(0, 10, 17, 72), (0, 10, 21, 13)] jc jx htab rfl (by decide) (fun z hz => absurd hz List.not_mem_nil) (by decide) (by decide) wd_2_125 hce hcv hcl ?_
      refine lv_astore (lv' := [(4, .ref q9), (0, .ref (ad q1)), (1, .int p2), (2, .int p3), (3, .ref (ad q4))]) hx hb dL_resolve_13 hl (by decide) rfl (fun ls hl => ?_)
      refine lv_iconst (v := 1) hx hb dL_resolve_15 (by decide) ?_
      exact kr _ _ _ _ _ _ _ _ (congrArg Prod.fst (Option.some.inj (j_ret eG0 hE))) (congrArg Prod.snd (Option.some.inj (j_ret eG0 hE))) jw (j_cs hRc hRs rfl rfl) dL_resolve_16
    rw [if_neg t2] at hE
    rcases Classical.em (txx1.1 = 3) with t3 | t3
    · rw [if_pos t3] at hE
      rw [t3] at hcl
      refine jw_catch (k := 3) [(0, 10, 13, 15)] (0, 10, 17, 72) [(0, 10, 21, 13)] jc jx htab rfl (by decide) (List.forall_mem_cons.mpr ⟨⟨by decide, 1, by decide, by decide, wd_2_125⟩, (fun z hz => absurd hz List.not_mem_nil)⟩) (by decide) (by decide) wd_4_103 hce hcv hcl ?_
      refine lv_astore (lv' := [(4, .ref q9), (0, .ref (ad q1)), (1, .int p2), (2, .int p3), (3, .ref (ad q4))]) hx hb dL_resolve_17 hl (by decide) rfl (fun ls hl => ?_)
      refine lv_iconst (v := 2) hx hb dL_resolve_19 (by decide) ?_
      exact kr _ _ _ _ _ _ _ _ (congrArg Prod.fst (Option.some.inj (j_ret eG0 hE))) (congrArg Prod.snd (Option.some.inj (j_ret eG0 hE))) jw (j_cs hRc hRs rfl rfl) dL_resolve_20
    rw [if_neg t3] at hE
    rcases Classical.em (txx1.1 = 0) with t4 | t4
    · rw [if_pos t4] at hE
      rw [t4] at hcl
      refine jw_catch (k := 0) [(0, 10, 13, 15), (0, 10, 17, 72)] (0, 10, 21, 13) [] jc jx htab rfl (by decide) (List.forall_mem_cons.mpr ⟨⟨by decide, 1, by decide, by decide, wd_2_125⟩, (List.forall_mem_cons.mpr ⟨⟨by decide, 3, by decide, by decide, wd_4_103⟩, (fun z hz => absurd hz List.not_mem_nil)⟩)⟩) (by decide) (by decide) wd_2_124 hce hcv hcl ?_
      refine lv_astore (lv' := [(4, .ref q9), (0, .ref (ad q1)), (1, .int p2), (2, .int p3), (3, .ref (ad q4))]) hx hb dL_resolve_21 hl (by decide) rfl (fun ls hl => ?_)
      refine lv_iconst (v := 3) hx hb dL_resolve_23 (by decide) ?_
      exact kr _ _ _ _ _ _ _ _ (congrArg Prod.fst (Option.some.inj (j_ret eG0 hE))) (congrArg Prod.snd (Option.some.inj (j_ret eG0 hE))) jw (j_cs hRc hRs rfl rfl) dL_resolve_24
    rw [if_neg t4] at hE
    exact absurd hE (hG0 _)
  subst hu
  try dsimp only at hE
  refine lv_i2l (v := Int32.toInt64 uxx1.1) hx hb dL_resolve_8 rfl ?_
  rcases Classical.em (j_g (0 : Int32) (j_ln Y q4)) with g5 | g5
  case inr => rw [if_neg g5] at hE; exact absurd hE (hG0 _)
  rw [if_pos g5] at hE
  refine jr_last jc jw hq4 (j_g_in g5) dL_resolve_9 (fun H locs jw => ?_)
  obtain ⟨mm6, emm6, hE⟩ := j_lv hE
  rw [← emm6] at jw
  try dsimp only at hE
  refine lv_goto (tgt := 25) hx hb dL_resolve_10 (by decide) ?_
  refine lv_iconst (v := 0) hx hb dL_resolve_25 (by decide) ?_
  exact kr _ _ _ _ _ _ _ _ (congrArg Prod.fst (Option.some.inj (j_ret eG0 hE))) (congrArg Prod.snd (Option.some.inj (j_ret eG0 hE))) jw (j_cs hRc hRs rfl rfl) dL_resolve_26
def s_L_unresolved (Y : JY) (M : JM) (q1 : Nat) (q2 : Nat) : Option (Int32 × JM) := (s_X9_unresolved Y M q1).bind fun xx1 => match xx1 with | Sum.inl txx1 => (if txx1.1 = 1 then (some ((1 : Int32), txx1.2)) else (none)) | Sum.inr uxx1 => (if j_g (0 : Int32) (j_ln Y q2) then (lt_ (j_up uxx1.2 q2 (0 : Int32).toNatClampNeg uxx1.1) fun mm4 => some ((0 : Int32), mm4)) else none)
set_option maxRecDepth 100000 in
set_option maxHeartbeats 4000000 in
theorem c_L_unresolved {D : va_G} {Y : JY} {ty : Nat → ClassId} {ad : Nat → Nat} {sz : Nat} {l : Launch} {M : JM} (hl9 : l.stackTraces = false) (hY : j_ok Y) {q1 : Nat} {q2 : Nat} (hq1 : j_kd Y q1 = 9) (hq2 : j_kd Y q2 = 104) {r : Int32 × JM} (hE : s_L_unresolved Y M q1 q2 = some r) : JMw D Y ty ad sz l yL_unresolved cL_unresolved 3 [(0, 8, 11, 15)] 8 130 1 6 [.ref (ad q1), .ref (ad q2)] M r.1 r.2 := by
  refine j_ofw hY (by decide +kernel) (Nat.le_of_ble_eq_true rfl) rfl (fun p e s m below meth c args R Q A hRf hRl hRc hRs hA jc jx htab jw kr ls hl => ?_)
  have hx := jc.1
  have hb := jc.2.1
  have hl : lv_has ls 3 [(0, .ref (ad q1)), (1, .ref (ad q2))] := hl
  unfold s_L_unresolved at hE
  obtain ⟨G0, eG0, hG0, hE⟩ := j_F0o hE
  refine lv_aload_n hx hb dL_unresolved_0 rfl (lv_at hl 1 rfl) ?_
  refine lv_iconst (v := 0) hx hb dL_unresolved_1 (by decide) ?_
  refine lv_aload_n hx hb dL_unresolved_2 rfl (lv_at hl 0 rfl) ?_
  obtain ⟨xx1, exx1, hE⟩ := j_bd hG0 hE
  try dsimp only at hE
  refine jt_vi [] [.int (0 : Int32), .ref (ad q2)] jc jx jw hA hq1 (by decide) rfl (c_X9_unresolved hl9 hY hq1 (M := M) exx1) sd_L_98 rfl hl.1 (j_hRT hRf hRl hRc hRs rfl rfl rfl rfl) (Nat.le_of_ble_eq_true rfl) dL_unresolved_3 (fun H locs txx1 ce q9 ht jw hce hcv hcl => ?_) (fun H locs uxx1 hu jw => ?_)
  · subst ht
    try dsimp only at hE
    rcases Classical.em (txx1.1 = 1) with t2 | t2
    · rw [if_pos t2] at hE
      rw [t2] at hcl
      refine jw_catch (k := 1) [] (0, 8, 11, 15) [] jc jx htab rfl (by decide) (fun z hz => absurd hz List.not_mem_nil) (by decide) (by decide) wd_2_125 hce hcv hcl ?_
      refine lv_astore_n (lv' := [(2, .ref q9), (0, .ref (ad q1)), (1, .ref (ad q2))]) hx hb dL_unresolved_11 rfl hl (by decide) rfl (fun ls hl => ?_)
      refine lv_iconst (v := 1) hx hb dL_unresolved_12 (by decide) ?_
      exact kr _ _ _ _ _ _ _ _ (congrArg Prod.fst (Option.some.inj (j_ret eG0 hE))) (congrArg Prod.snd (Option.some.inj (j_ret eG0 hE))) jw (j_cs hRc hRs rfl rfl) dL_unresolved_13
    rw [if_neg t2] at hE
    exact absurd hE (hG0 _)
  subst hu
  try dsimp only at hE
  refine lv_i2l (v := Int32.toInt64 uxx1.1) hx hb dL_unresolved_6 rfl ?_
  rcases Classical.em (j_g (0 : Int32) (j_ln Y q2)) with g3 | g3
  case inr => rw [if_neg g3] at hE; exact absurd hE (hG0 _)
  rw [if_pos g3] at hE
  refine jr_last jc jw hq2 (j_g_in g3) dL_unresolved_7 (fun H locs jw => ?_)
  obtain ⟨mm4, emm4, hE⟩ := j_lv hE
  rw [← emm4] at jw
  try dsimp only at hE
  refine lv_goto (tgt := 14) hx hb dL_unresolved_8 (by decide) ?_
  refine lv_iconst (v := 0) hx hb dL_unresolved_14 (by decide) ?_
  exact kr _ _ _ _ _ _ _ _ (congrArg Prod.fst (Option.some.inj (j_ret eG0 hE))) (congrArg Prod.snd (Option.some.inj (j_ret eG0 hE))) jw (j_cs hRc hRs rfl rfl) dL_unresolved_15
def s_L_mergedLength (Y : JY) (M : JM) (q1 : Nat) (q2 : Nat) : Option (Int32 × JM) := (s_X9_mergedLength Y M q1).bind fun xx1 => match xx1 with | Sum.inl txx1 => (if txx1.1 = 1 then (some ((1 : Int32), txx1.2)) else (none)) | Sum.inr uxx1 => (if j_g (0 : Int32) (j_ln Y q2) then (lt_ (j_up uxx1.2 q2 (0 : Int32).toNatClampNeg uxx1.1) fun mm4 => some ((0 : Int32), mm4)) else none)
set_option maxRecDepth 100000 in
set_option maxHeartbeats 4000000 in
theorem c_L_mergedLength {D : va_G} {Y : JY} {ty : Nat → ClassId} {ad : Nat → Nat} {sz : Nat} {l : Launch} {M : JM} (hl9 : l.stackTraces = false) (hY : j_ok Y) {q1 : Nat} {q2 : Nat} (hq1 : j_kd Y q1 = 9) (hq2 : j_kd Y q2 = 104) {r : Int32 × JM} (hE : s_L_mergedLength Y M q1 q2 = some r) : JMw D Y ty ad sz l yL_mergedLength cL_mergedLength 3 [(0, 8, 11, 15)] 8 130 1 6 [.ref (ad q1), .ref (ad q2)] M r.1 r.2 := by
  refine j_ofw hY (by decide +kernel) (Nat.le_of_ble_eq_true rfl) rfl (fun p e s m below meth c args R Q A hRf hRl hRc hRs hA jc jx htab jw kr ls hl => ?_)
  have hx := jc.1
  have hb := jc.2.1
  have hl : lv_has ls 3 [(0, .ref (ad q1)), (1, .ref (ad q2))] := hl
  unfold s_L_mergedLength at hE
  obtain ⟨G0, eG0, hG0, hE⟩ := j_F0o hE
  refine lv_aload_n hx hb dL_mergedLength_0 rfl (lv_at hl 1 rfl) ?_
  refine lv_iconst (v := 0) hx hb dL_mergedLength_1 (by decide) ?_
  refine lv_aload_n hx hb dL_mergedLength_2 rfl (lv_at hl 0 rfl) ?_
  obtain ⟨xx1, exx1, hE⟩ := j_bd hG0 hE
  try dsimp only at hE
  refine jt_vi [] [.int (0 : Int32), .ref (ad q2)] jc jx jw hA hq1 (by decide) rfl (c_X9_mergedLength hl9 hY hq1 (M := M) exx1) sd_L_101 rfl hl.1 (j_hRT hRf hRl hRc hRs rfl rfl rfl rfl) (Nat.le_of_ble_eq_true rfl) dL_mergedLength_3 (fun H locs txx1 ce q9 ht jw hce hcv hcl => ?_) (fun H locs uxx1 hu jw => ?_)
  · subst ht
    try dsimp only at hE
    rcases Classical.em (txx1.1 = 1) with t2 | t2
    · rw [if_pos t2] at hE
      rw [t2] at hcl
      refine jw_catch (k := 1) [] (0, 8, 11, 15) [] jc jx htab rfl (by decide) (fun z hz => absurd hz List.not_mem_nil) (by decide) (by decide) wd_2_125 hce hcv hcl ?_
      refine lv_astore_n (lv' := [(2, .ref q9), (0, .ref (ad q1)), (1, .ref (ad q2))]) hx hb dL_mergedLength_11 rfl hl (by decide) rfl (fun ls hl => ?_)
      refine lv_iconst (v := 1) hx hb dL_mergedLength_12 (by decide) ?_
      exact kr _ _ _ _ _ _ _ _ (congrArg Prod.fst (Option.some.inj (j_ret eG0 hE))) (congrArg Prod.snd (Option.some.inj (j_ret eG0 hE))) jw (j_cs hRc hRs rfl rfl) dL_mergedLength_13
    rw [if_neg t2] at hE
    exact absurd hE (hG0 _)
  subst hu
  try dsimp only at hE
  refine lv_i2l (v := Int32.toInt64 uxx1.1) hx hb dL_mergedLength_6 rfl ?_
  rcases Classical.em (j_g (0 : Int32) (j_ln Y q2)) with g3 | g3
  case inr => rw [if_neg g3] at hE; exact absurd hE (hG0 _)
  rw [if_pos g3] at hE
  refine jr_last jc jw hq2 (j_g_in g3) dL_mergedLength_7 (fun H locs jw => ?_)
  obtain ⟨mm4, emm4, hE⟩ := j_lv hE
  rw [← emm4] at jw
  try dsimp only at hE
  refine lv_goto (tgt := 14) hx hb dL_mergedLength_8 (by decide) ?_
  refine lv_iconst (v := 0) hx hb dL_mergedLength_14 (by decide) ?_
  exact kr _ _ _ _ _ _ _ _ (congrArg Prod.fst (Option.some.inj (j_ret eG0 hE))) (congrArg Prod.snd (Option.some.inj (j_ret eG0 hE))) jw (j_cs hRc hRs rfl rfl) dL_mergedLength_15
def s_L_merged (Y : JY) (M : JM) (q1 : Nat) (p2 : Int32) (q3 : Nat) : Option (Int32 × JM) := (s_X9_merged Y M q1 p2).bind fun xx1 => match xx1 with | Sum.inl txx1 => (if txx1.1 = 1 then (some ((1 : Int32), txx1.2)) else (if txx1.1 = 2 then (some ((2 : Int32), txx1.2)) else (none))) | Sum.inr uxx1 => (if j_g (0 : Int32) (j_ln Y q3) then (lt_ (j_up uxx1.2 q3 (0 : Int32).toNatClampNeg uxx1.1) fun mm5 => some ((0 : Int32), mm5)) else none)
set_option maxRecDepth 100000 in
set_option maxHeartbeats 4000000 in
theorem c_L_merged {D : va_G} {Y : JY} {ty : Nat → ClassId} {ad : Nat → Nat} {sz : Nat} {l : Launch} {M : JM} (hl9 : l.stackTraces = false) (hY : j_ok Y) {q1 : Nat} {p2 : Int32} {q3 : Nat} (hq1 : j_kd Y q1 = 9) (hq3 : j_kd Y q3 = 104) {r : Int32 × JM} (hE : s_L_merged Y M q1 p2 q3 = some r) : JMw D Y ty ad sz l yL_merged cL_merged 4 [(0, 9, 12, 15), (0, 9, 15, 21)] 8 131 2 12 [.ref (ad q1), .int p2, .ref (ad q3)] M r.1 r.2 := by
  refine j_ofw hY (by decide +kernel) (Nat.le_of_ble_eq_true rfl) rfl (fun p e s m below meth c args R Q A hRf hRl hRc hRs hA jc jx htab jw kr ls hl => ?_)
  have hx := jc.1
  have hb := jc.2.1
  have hl : lv_has ls 4 [(0, .ref (ad q1)), (1, .int p2), (2, .ref (ad q3))] := hl
  unfold s_L_merged at hE
  obtain ⟨G0, eG0, hG0, hE⟩ := j_F0o hE
  refine lv_aload_n hx hb dL_merged_0 rfl (lv_at hl 2 rfl) ?_
  refine lv_iconst (v := 0) hx hb dL_merged_1 (by decide) ?_
  refine lv_aload_n hx hb dL_merged_2 rfl (lv_at hl 0 rfl) ?_
  refine lv_iload_n hx hb dL_merged_3 rfl (lv_at hl 1 rfl) ?_
  obtain ⟨xx1, exx1, hE⟩ := j_bd hG0 hE
  try dsimp only at hE
  refine jt_vi [.int p2] [.int (0 : Int32), .ref (ad q3)] jc jx jw hA hq1 (by decide) rfl (c_X9_merged hl9 hY hq1 (M := M) exx1) sd_L_104 rfl hl.1 (j_hRT hRf hRl hRc hRs rfl rfl rfl rfl) (Nat.le_of_ble_eq_true rfl) dL_merged_4 (fun H locs txx1 ce q9 ht jw hce hcv hcl => ?_) (fun H locs uxx1 hu jw => ?_)
  · subst ht
    try dsimp only at hE
    rcases Classical.em (txx1.1 = 1) with t2 | t2
    · rw [if_pos t2] at hE
      rw [t2] at hcl
      refine jw_catch (k := 1) [] (0, 9, 12, 15) [(0, 9, 15, 21)] jc jx htab rfl (by decide) (fun z hz => absurd hz List.not_mem_nil) (by decide) (by decide) wd_2_125 hce hcv hcl ?_
      refine lv_astore_n (lv' := [(3, .ref q9), (0, .ref (ad q1)), (1, .int p2), (2, .ref (ad q3))]) hx hb dL_merged_12 rfl hl (by decide) rfl (fun ls hl => ?_)
      refine lv_iconst (v := 1) hx hb dL_merged_13 (by decide) ?_
      exact kr _ _ _ _ _ _ _ _ (congrArg Prod.fst (Option.some.inj (j_ret eG0 hE))) (congrArg Prod.snd (Option.some.inj (j_ret eG0 hE))) jw (j_cs hRc hRs rfl rfl) dL_merged_14
    rw [if_neg t2] at hE
    rcases Classical.em (txx1.1 = 2) with t3 | t3
    · rw [if_pos t3] at hE
      rw [t3] at hcl
      refine jw_catch (k := 2) [(0, 9, 12, 15)] (0, 9, 15, 21) [] jc jx htab rfl (by decide) (List.forall_mem_cons.mpr ⟨⟨by decide, 1, by decide, by decide, wd_2_125⟩, (fun z hz => absurd hz List.not_mem_nil)⟩) (by decide) (by decide) wd_3_5 hce hcv hcl ?_
      refine lv_astore_n (lv' := [(3, .ref q9), (0, .ref (ad q1)), (1, .int p2), (2, .ref (ad q3))]) hx hb dL_merged_15 rfl hl (by decide) rfl (fun ls hl => ?_)
      refine lv_iconst (v := 2) hx hb dL_merged_16 (by decide) ?_
      exact kr _ _ _ _ _ _ _ _ (congrArg Prod.fst (Option.some.inj (j_ret eG0 hE))) (congrArg Prod.snd (Option.some.inj (j_ret eG0 hE))) jw (j_cs hRc hRs rfl rfl) dL_merged_17
    rw [if_neg t3] at hE
    exact absurd hE (hG0 _)
  subst hu
  try dsimp only at hE
  refine lv_i2l (v := Int32.toInt64 uxx1.1) hx hb dL_merged_7 rfl ?_
  rcases Classical.em (j_g (0 : Int32) (j_ln Y q3)) with g4 | g4
  case inr => rw [if_neg g4] at hE; exact absurd hE (hG0 _)
  rw [if_pos g4] at hE
  refine jr_last jc jw hq3 (j_g_in g4) dL_merged_8 (fun H locs jw => ?_)
  obtain ⟨mm5, emm5, hE⟩ := j_lv hE
  rw [← emm5] at jw
  try dsimp only at hE
  refine lv_goto (tgt := 18) hx hb dL_merged_9 (by decide) ?_
  refine lv_iconst (v := 0) hx hb dL_merged_18 (by decide) ?_
  exact kr _ _ _ _ _ _ _ _ (congrArg Prod.fst (Option.some.inj (j_ret eG0 hE))) (congrArg Prod.snd (Option.some.inj (j_ret eG0 hE))) jw (j_cs hRc hRs rfl rfl) dL_merged_19
def s_L_accept (Y : JY) (M : JM) (q1 : Nat) (p2 : Int32) (q3 : Nat) : Option (Int32 × JM) := (s_X9_accept Y M q1 p2).bind fun xx1 => match xx1 with | Sum.inl txx1 => (if txx1.1 = 0 then (some ((1 : Int32), txx1.2)) else (if txx1.1 = 1 then (some ((2 : Int32), txx1.2)) else (if txx1.1 = 5 then (some ((3 : Int32), txx1.2)) else (none)))) | Sum.inr uxx1 => (if j_g (0 : Int32) (j_ln Y q3) then (lt_ (j_up uxx1.2 q3 (0 : Int32).toNatClampNeg uxx1.1) fun mm6 => some ((0 : Int32), mm6)) else none)
set_option maxRecDepth 100000 in
set_option maxHeartbeats 4000000 in
theorem c_L_accept {D : va_G} {Y : JY} {ty : Nat → ClassId} {ad : Nat → Nat} {sz : Nat} {l : Launch} {M : JM} (hl9 : l.stackTraces = false) (hY : j_ok Y) {q1 : Nat} {p2 : Int32} {q3 : Nat} (hq1 : j_kd Y q1 = 9) (hq3 : j_kd Y q3 = 104) {r : Int32 × JM} (hE : s_L_accept Y M q1 p2 q3 = some r) : JMw D Y ty ad sz l yL_accept cL_accept 4 [(0, 9, 12, 13), (0, 9, 15, 15), (0, 9, 18, 110)] 8 133 3 18 [.ref (ad q1), .int p2, .ref (ad q3)] M r.1 r.2 := by
  refine j_ofw hY (by decide +kernel) (Nat.le_of_ble_eq_true rfl) rfl (fun p e s m below meth c args R Q A hRf hRl hRc hRs hA jc jx htab jw kr ls hl => ?_)
  have hx := jc.1
  have hb := jc.2.1
  have hl : lv_has ls 4 [(0, .ref (ad q1)), (1, .int p2), (2, .ref (ad q3))] := hl
  unfold s_L_accept at hE
  obtain ⟨G0, eG0, hG0, hE⟩ := j_F0o hE
  refine lv_aload_n hx hb dL_accept_0 rfl (lv_at hl 2 rfl) ?_
  refine lv_iconst (v := 0) hx hb dL_accept_1 (by decide) ?_
  refine lv_aload_n hx hb dL_accept_2 rfl (lv_at hl 0 rfl) ?_
  refine lv_iload_n hx hb dL_accept_3 rfl (lv_at hl 1 rfl) ?_
  obtain ⟨xx1, exx1, hE⟩ := j_bd hG0 hE
  try dsimp only at hE
  refine jt_vi [.int p2] [.int (0 : Int32), .ref (ad q3)] jc jx jw hA hq1 (by decide) rfl (c_X9_accept hl9 hY hq1 (M := M) exx1) sd_L_107 rfl hl.1 (j_hRT hRf hRl hRc hRs rfl rfl rfl rfl) (Nat.le_of_ble_eq_true rfl) dL_accept_4 (fun H locs txx1 ce q9 ht jw hce hcv hcl => ?_) (fun H locs uxx1 hu jw => ?_)
  · subst ht
    try dsimp only at hE
    rcases Classical.em (txx1.1 = 0) with t2 | t2
    · rw [if_pos t2] at hE
      rw [t2] at hcl
      refine jw_catch (k := 0) [] (0, 9, 12, 13) [(0, 9, 15, 15), (0, 9, 18, 110)] jc jx htab rfl (by decide) (fun z hz => absurd hz List.not_mem_nil) (by decide) (by decide) wd_2_124 hce hcv hcl ?_
      refine lv_astore_n (lv' := [(3, .ref q9), (0, .ref (ad q1)), (1, .int p2), (2, .ref (ad q3))]) hx hb dL_accept_12 rfl hl (by decide) rfl (fun ls hl => ?_)
      refine lv_iconst (v := 1) hx hb dL_accept_13 (by decide) ?_
      exact kr _ _ _ _ _ _ _ _ (congrArg Prod.fst (Option.some.inj (j_ret eG0 hE))) (congrArg Prod.snd (Option.some.inj (j_ret eG0 hE))) jw (j_cs hRc hRs rfl rfl) dL_accept_14
    rw [if_neg t2] at hE
    rcases Classical.em (txx1.1 = 1) with t3 | t3
    · rw [if_pos t3] at hE
      rw [t3] at hcl
      refine jw_catch (k := 1) [(0, 9, 12, 13)] (0, 9, 15, 15) [(0, 9, 18, 110)] jc jx htab rfl (by decide) (List.forall_mem_cons.mpr ⟨⟨by decide, 0, by decide, by decide, wd_2_124⟩, (fun z hz => absurd hz List.not_mem_nil)⟩) (by decide) (by decide) wd_2_125 hce hcv hcl ?_
      refine lv_astore_n (lv' := [(3, .ref q9), (0, .ref (ad q1)), (1, .int p2), (2, .ref (ad q3))]) hx hb dL_accept_15 rfl hl (by decide) rfl (fun ls hl => ?_)
      refine lv_iconst (v := 2) hx hb dL_accept_16 (by decide) ?_
      exact kr _ _ _ _ _ _ _ _ (congrArg Prod.fst (Option.some.inj (j_ret eG0 hE))) (congrArg Prod.snd (Option.some.inj (j_ret eG0 hE))) jw (j_cs hRc hRs rfl rfl) dL_accept_17
    rw [if_neg t3] at hE
    rcases Classical.em (txx1.1 = 5) with t4 | t4
    · rw [if_pos t4] at hE
      rw [t4] at hcl
      refine jw_catch (k := 5) [(0, 9, 12, 13), (0, 9, 15, 15)] (0, 9, 18, 110) [] jc jx htab rfl (by decide) (List.forall_mem_cons.mpr ⟨⟨by decide, 0, by decide, by decide, wd_2_124⟩, (List.forall_mem_cons.mpr ⟨⟨by decide, 1, by decide, by decide, wd_2_125⟩, (fun z hz => absurd hz List.not_mem_nil)⟩)⟩) (by decide) (by decide) wd_5_131 hce hcv hcl ?_
      refine lv_astore_n (lv' := [(3, .ref q9), (0, .ref (ad q1)), (1, .int p2), (2, .ref (ad q3))]) hx hb dL_accept_18 rfl hl (by decide) rfl (fun ls hl => ?_)
      refine lv_iconst (v := 3) hx hb dL_accept_19 (by decide) ?_
      exact kr _ _ _ _ _ _ _ _ (congrArg Prod.fst (Option.some.inj (j_ret eG0 hE))) (congrArg Prod.snd (Option.some.inj (j_ret eG0 hE))) jw (j_cs hRc hRs rfl rfl) dL_accept_20
    rw [if_neg t4] at hE
    exact absurd hE (hG0 _)
  subst hu
  try dsimp only at hE
  refine lv_i2l (v := Int32.toInt64 uxx1.1) hx hb dL_accept_7 rfl ?_
  rcases Classical.em (j_g (0 : Int32) (j_ln Y q3)) with g5 | g5
  case inr => rw [if_neg g5] at hE; exact absurd hE (hG0 _)
  rw [if_pos g5] at hE
  refine jr_last jc jw hq3 (j_g_in g5) dL_accept_8 (fun H locs jw => ?_)
  obtain ⟨mm6, emm6, hE⟩ := j_lv hE
  rw [← emm6] at jw
  try dsimp only at hE
  refine lv_goto (tgt := 21) hx hb dL_accept_9 (by decide) ?_
  refine lv_iconst (v := 0) hx hb dL_accept_21 (by decide) ?_
  exact kr _ _ _ _ _ _ _ _ (congrArg Prod.fst (Option.some.inj (j_ret eG0 hE))) (congrArg Prod.snd (Option.some.inj (j_ret eG0 hE))) jw (j_cs hRc hRs rfl rfl) dL_accept_22
def s_L_makePatch (Y : JY) (M : JM) (q1 : Nat) (p2 : Int32) (q3 : Nat) : Option (Int32 × JM) := (s_X9_makePatch Y M q1 p2).bind fun xx1 => match xx1 with | Sum.inl txx1 => (if txx1.1 = 0 then (some ((1 : Int32), txx1.2)) else (if txx1.1 = 1 then (some ((2 : Int32), txx1.2)) else (none))) | Sum.inr uxx1 => (if j_g (0 : Int32) (j_ln Y q3) then (lt_ (j_up uxx1.2 q3 (0 : Int32).toNatClampNeg uxx1.1) fun mm5 => some ((0 : Int32), mm5)) else none)
set_option maxRecDepth 100000 in
set_option maxHeartbeats 4000000 in
theorem c_L_makePatch {D : va_G} {Y : JY} {ty : Nat → ClassId} {ad : Nat → Nat} {sz : Nat} {l : Launch} {M : JM} (hl9 : l.stackTraces = false) (hY : j_ok Y) {q1 : Nat} {p2 : Int32} {q3 : Nat} (hq1 : j_kd Y q1 = 9) (hq3 : j_kd Y q3 = 104) {r : Int32 × JM} (hE : s_L_makePatch Y M q1 p2 q3 = some r) : JMw D Y ty ad sz l yL_makePatch cL_makePatch 4 [(0, 9, 12, 13), (0, 9, 15, 15)] 8 131 1 6 [.ref (ad q1), .int p2, .ref (ad q3)] M r.1 r.2 := by
  refine j_ofw hY (by decide +kernel) (Nat.le_of_ble_eq_true rfl) rfl (fun p e s m below meth c args R Q A hRf hRl hRc hRs hA jc jx htab jw kr ls hl => ?_)
  have hx := jc.1
  have hb := jc.2.1
  have hl : lv_has ls 4 [(0, .ref (ad q1)), (1, .int p2), (2, .ref (ad q3))] := hl
  unfold s_L_makePatch at hE
  obtain ⟨G0, eG0, hG0, hE⟩ := j_F0o hE
  refine lv_aload_n hx hb dL_makePatch_0 rfl (lv_at hl 2 rfl) ?_
  refine lv_iconst (v := 0) hx hb dL_makePatch_1 (by decide) ?_
  refine lv_aload_n hx hb dL_makePatch_2 rfl (lv_at hl 0 rfl) ?_
  refine lv_iload_n hx hb dL_makePatch_3 rfl (lv_at hl 1 rfl) ?_
  obtain ⟨xx1, exx1, hE⟩ := j_bd hG0 hE
  try dsimp only at hE
  refine jt_vi [.int p2] [.int (0 : Int32), .ref (ad q3)] jc jx jw hA hq1 (by decide) rfl (c_X9_makePatch hl9 hY hq1 (M := M) exx1) sd_L_112 rfl hl.1 (j_hRT hRf hRl hRc hRs rfl rfl rfl rfl) (Nat.le_of_ble_eq_true rfl) dL_makePatch_4 (fun H locs txx1 ce q9 ht jw hce hcv hcl => ?_) (fun H locs uxx1 hu jw => ?_)
  · subst ht
    try dsimp only at hE
    rcases Classical.em (txx1.1 = 0) with t2 | t2
    · rw [if_pos t2] at hE
      rw [t2] at hcl
      refine jw_catch (k := 0) [] (0, 9, 12, 13) [(0, 9, 15, 15)] jc jx htab rfl (by decide) (fun z hz => absurd hz List.not_mem_nil) (by decide) (by decide) wd_2_124 hce hcv hcl ?_
      refine lv_astore_n (lv' := [(3, .ref q9), (0, .ref (ad q1)), (1, .int p2), (2, .ref (ad q3))]) hx hb dL_makePatch_12 rfl hl (by decide) rfl (fun ls hl => ?_)
      refine lv_iconst (v := 1) hx hb dL_makePatch_13 (by decide) ?_
      exact kr _ _ _ _ _ _ _ _ (congrArg Prod.fst (Option.some.inj (j_ret eG0 hE))) (congrArg Prod.snd (Option.some.inj (j_ret eG0 hE))) jw (j_cs hRc hRs rfl rfl) dL_makePatch_14
    rw [if_neg t2] at hE
    rcases Classical.em (txx1.1 = 1) with t3 | t3
    · rw [if_pos t3] at hE
      rw [t3] at hcl
      refine jw_catch (k := 1) [(0, 9, 12, 13)] (0, 9, 15, 15) [] jc jx htab rfl (by decide) (List.forall_mem_cons.mpr ⟨⟨by decide, 0, by decide, by decide, wd_2_124⟩, (fun z hz => absurd hz List.not_mem_nil)⟩) (by decide) (by decide) wd_2_125 hce hcv hcl ?_
      refine lv_astore_n (lv' := [(3, .ref q9), (0, .ref (ad q1)), (1, .int p2), (2, .ref (ad q3))]) hx hb dL_makePatch_15 rfl hl (by decide) rfl (fun ls hl => ?_)
      refine lv_iconst (v := 2) hx hb dL_makePatch_16 (by decide) ?_
      exact kr _ _ _ _ _ _ _ _ (congrArg Prod.fst (Option.some.inj (j_ret eG0 hE))) (congrArg Prod.snd (Option.some.inj (j_ret eG0 hE))) jw (j_cs hRc hRs rfl rfl) dL_makePatch_17
    rw [if_neg t3] at hE
    exact absurd hE (hG0 _)
  subst hu
  try dsimp only at hE
  refine lv_i2l (v := Int32.toInt64 uxx1.1) hx hb dL_makePatch_7 rfl ?_
  rcases Classical.em (j_g (0 : Int32) (j_ln Y q3)) with g4 | g4
  case inr => rw [if_neg g4] at hE; exact absurd hE (hG0 _)
  rw [if_pos g4] at hE
  refine jr_last jc jw hq3 (j_g_in g4) dL_makePatch_8 (fun H locs jw => ?_)
  obtain ⟨mm5, emm5, hE⟩ := j_lv hE
  rw [← emm5] at jw
  try dsimp only at hE
  refine lv_goto (tgt := 18) hx hb dL_makePatch_9 (by decide) ?_
  refine lv_iconst (v := 0) hx hb dL_makePatch_18 (by decide) ?_
  exact kr _ _ _ _ _ _ _ _ (congrArg Prod.fst (Option.some.inj (j_ret eG0 hE))) (congrArg Prod.snd (Option.some.inj (j_ret eG0 hE))) jw (j_cs hRc hRs rfl rfl) dL_makePatch_19
def s_L_hunk (Y : JY) (M : JM) (q1 : Nat) (p2 : Int32) (p3 : Int32) (q4 : Nat) : Option (Int32 × JM) := (s_X9_hunk Y M q1 p2 p3).bind fun xx1 => match xx1 with | Sum.inl txx1 => (if txx1.1 = 1 then (some ((1 : Int32), txx1.2)) else (if txx1.1 = 2 then (some ((2 : Int32), txx1.2)) else (if txx1.1 = 0 then (some ((3 : Int32), txx1.2)) else (none)))) | Sum.inr uxx1 => (if j_g (0 : Int32) (j_ln Y q4) then (lt_ (j_up uxx1.2 q4 (0 : Int32).toNatClampNeg uxx1.1) fun mm6 => some ((0 : Int32), mm6)) else none)
set_option maxRecDepth 100000 in
set_option maxHeartbeats 4000000 in
theorem c_L_hunk {D : va_G} {Y : JY} {ty : Nat → ClassId} {ad : Nat → Nat} {sz : Nat} {l : Launch} {M : JM} (hl9 : l.stackTraces = false) (hY : j_ok Y) {q1 : Nat} {p2 : Int32} {p3 : Int32} {q4 : Nat} (hq1 : j_kd Y q1 = 9) (hq4 : j_kd Y q4 = 104) {r : Int32 × JM} (hE : s_L_hunk Y M q1 p2 p3 q4 = some r) : JMw D Y ty ad sz l yL_hunk cL_hunk 5 [(0, 10, 13, 15), (0, 10, 17, 21), (0, 10, 21, 13)] 8 135 2 12 [.ref (ad q1), .int p2, .int p3, .ref (ad q4)] M r.1 r.2 := by
  refine j_ofw hY (by decide +kernel) (Nat.le_of_ble_eq_true rfl) rfl (fun p e s m below meth c args R Q A hRf hRl hRc hRs hA jc jx htab jw kr ls hl => ?_)
  have hx := jc.1
  have hb := jc.2.1
  have hl : lv_has ls 5 [(0, .ref (ad q1)), (1, .int p2), (2, .int p3), (3, .ref (ad q4))] := hl
  unfold s_L_hunk at hE
  obtain ⟨G0, eG0, hG0, hE⟩ := j_F0o hE
  refine lv_aload_n hx hb dL_hunk_0 rfl (lv_at hl 3 rfl) ?_
  refine lv_iconst (v := 0) hx hb dL_hunk_1 (by decide) ?_
  refine lv_aload_n hx hb dL_hunk_2 rfl (lv_at hl 0 rfl) ?_
  refine lv_iload_n hx hb dL_hunk_3 rfl (lv_at hl 1 rfl) ?_
  refine lv_iload_n hx hb dL_hunk_4 rfl (lv_at hl 2 rfl) ?_
  obtain ⟨xx1, exx1, hE⟩ := j_bd hG0 hE
  try dsimp only at hE
  refine jt_vi [.int p2, .int p3] [.int (0 : Int32), .ref (ad q4)] jc jx jw hA hq1 (by decide) rfl (c_X9_hunk hl9 hY hq1 (M := M) exx1) sd_L_115 rfl hl.1 (j_hRT hRf hRl hRc hRs rfl rfl rfl rfl) (Nat.le_of_ble_eq_true rfl) dL_hunk_5 (fun H locs txx1 ce q9 ht jw hce hcv hcl => ?_) (fun H locs uxx1 hu jw => ?_)
  · subst ht
    try dsimp only at hE
    rcases Classical.em (txx1.1 = 1) with t2 | t2
    · rw [if_pos t2] at hE
      rw [t2] at hcl
      refine jw_catch (k := 1) [] (0, 10, 13, 15) [(0, 10, 17, 21), (0, 10, 21, 13)] jc jx htab rfl (by decide) (fun z hz => absurd hz List.not_mem_nil) (by decide) (by decide) wd_2_125 hce hcv hcl ?_
      refine lv_astore (lv' := [(4, .ref q9), (0, .ref (ad q1)), (1, .int p2), (2, .int p3), (3, .ref (ad q4))]) hx hb dL_hunk_13 hl (by decide) rfl (fun ls hl => ?_)
      refine lv_iconst (v := 1) hx hb dL_hunk_15 (by decide) ?_
      exact kr _ _ _ _ _ _ _ _ (congrArg Prod.fst (Option.some.inj (j_ret eG0 hE))) (congrArg Prod.snd (Option.some.inj (j_ret eG0 hE))) jw (j_cs hRc hRs rfl rfl) dL_hunk_16
    rw [if_neg t2] at hE
    rcases Classical.em (txx1.1 = 2) with t3 | t3
    · rw [if_pos t3] at hE
      rw [t3] at hcl
      refine jw_catch (k := 2) [(0, 10, 13, 15)] (0, 10, 17, 21) [(0, 10, 21, 13)] jc jx htab rfl (by decide) (List.forall_mem_cons.mpr ⟨⟨by decide, 1, by decide, by decide, wd_2_125⟩, (fun z hz => absurd hz List.not_mem_nil)⟩) (by decide) (by decide) wd_3_5 hce hcv hcl ?_
      refine lv_astore (lv' := [(4, .ref q9), (0, .ref (ad q1)), (1, .int p2), (2, .int p3), (3, .ref (ad q4))]) hx hb dL_hunk_17 hl (by decide) rfl (fun ls hl => ?_)
      refine lv_iconst (v := 2) hx hb dL_hunk_19 (by decide) ?_
      exact kr _ _ _ _ _ _ _ _ (congrArg Prod.fst (Option.some.inj (j_ret eG0 hE))) (congrArg Prod.snd (Option.some.inj (j_ret eG0 hE))) jw (j_cs hRc hRs rfl rfl) dL_hunk_20
    rw [if_neg t3] at hE
    rcases Classical.em (txx1.1 = 0) with t4 | t4
    · rw [if_pos t4] at hE
      rw [t4] at hcl
      refine jw_catch (k := 0) [(0, 10, 13, 15), (0, 10, 17, 21)] (0, 10, 21, 13) [] jc jx htab rfl (by decide) (List.forall_mem_cons.mpr ⟨⟨by decide, 1, by decide, by decide, wd_2_125⟩, (List.forall_mem_cons.mpr ⟨⟨by decide, 2, by decide, by decide, wd_3_5⟩, (fun z hz => absurd hz List.not_mem_nil)⟩)⟩) (by decide) (by decide) wd_2_124 hce hcv hcl ?_
      refine lv_astore (lv' := [(4, .ref q9), (0, .ref (ad q1)), (1, .int p2), (2, .int p3), (3, .ref (ad q4))]) hx hb dL_hunk_21 hl (by decide) rfl (fun ls hl => ?_)
      refine lv_iconst (v := 3) hx hb dL_hunk_23 (by decide) ?_
      exact kr _ _ _ _ _ _ _ _ (congrArg Prod.fst (Option.some.inj (j_ret eG0 hE))) (congrArg Prod.snd (Option.some.inj (j_ret eG0 hE))) jw (j_cs hRc hRs rfl rfl) dL_hunk_24
    rw [if_neg t4] at hE
    exact absurd hE (hG0 _)
  subst hu
  try dsimp only at hE
  refine lv_i2l (v := Int32.toInt64 uxx1.1) hx hb dL_hunk_8 rfl ?_
  rcases Classical.em (j_g (0 : Int32) (j_ln Y q4)) with g5 | g5
  case inr => rw [if_neg g5] at hE; exact absurd hE (hG0 _)
  rw [if_pos g5] at hE
  refine jr_last jc jw hq4 (j_g_in g5) dL_hunk_9 (fun H locs jw => ?_)
  obtain ⟨mm6, emm6, hE⟩ := j_lv hE
  rw [← emm6] at jw
  try dsimp only at hE
  refine lv_goto (tgt := 25) hx hb dL_hunk_10 (by decide) ?_
  refine lv_iconst (v := 0) hx hb dL_hunk_25 (by decide) ?_
  exact kr _ _ _ _ _ _ _ _ (congrArg Prod.fst (Option.some.inj (j_ret eG0 hE))) (congrArg Prod.snd (Option.some.inj (j_ret eG0 hE))) jw (j_cs hRc hRs rfl rfl) dL_hunk_26
def s_L_apply (Y : JY) (M : JM) (q1 : Nat) (p2 : Int32) (p3 : Int32) (p4 : Int32) (q5 : Nat) : Option (Int32 × JM) := (s_X9_apply Y M q1 p2 p3 p4).bind fun xx1 => match xx1 with | Sum.inl txx1 => (if txx1.1 = 0 then (some ((1 : Int32), txx1.2)) else (if txx1.1 = 1 then (some ((2 : Int32), txx1.2)) else (if txx1.1 = 5 then (some ((3 : Int32), txx1.2)) else (none)))) | Sum.inr uxx1 => (if j_g (0 : Int32) (j_ln Y q5) then (lt_ (j_up uxx1.2 q5 (0 : Int32).toNatClampNeg uxx1.1) fun mm6 => some ((0 : Int32), mm6)) else none)
set_option maxRecDepth 100000 in
set_option maxHeartbeats 4000000 in
theorem c_L_apply {D : va_G} {Y : JY} {ty : Nat → ClassId} {ad : Nat → Nat} {sz : Nat} {l : Launch} {M : JM} (hl9 : l.stackTraces = false) (hY : j_ok Y) {q1 : Nat} {p2 : Int32} {p3 : Int32} {p4 : Int32} {q5 : Nat} (hq1 : j_kd Y q1 = 9) (hq5 : j_kd Y q5 = 104) {r : Int32 × JM} (hE : s_L_apply Y M q1 p2 p3 p4 q5 = some r) : JMw D Y ty ad sz l yL_apply cL_apply 6 [(0, 12, 15, 13), (0, 12, 19, 15), (0, 12, 23, 110)] 8 178 3 18 [.ref (ad q1), .int p2, .int p3, .int p4, .ref (ad q5)] M r.1 r.2 := by
  refine j_ofw hY (by decide +kernel) (Nat.le_of_ble_eq_true rfl) rfl (fun p e s m below meth c args R Q A hRf hRl hRc hRs hA jc jx htab jw kr ls hl => ?_)
  have hx := jc.1
  have hb := jc.2.1
  have hl : lv_has ls 6 [(0, .ref (ad q1)), (1, .int p2), (2, .int p3), (3, .int p4), (4, .ref (ad q5))] := hl
  unfold s_L_apply at hE
  obtain ⟨G0, eG0, hG0, hE⟩ := j_F0o hE
  refine lv_aload hx hb dL_apply_0 (lv_at hl 4 rfl) ?_
  refine lv_iconst (v := 0) hx hb dL_apply_2 (by decide) ?_
  refine lv_aload_n hx hb dL_apply_3 rfl (lv_at hl 0 rfl) ?_
  refine lv_iload_n hx hb dL_apply_4 rfl (lv_at hl 1 rfl) ?_
  refine lv_iload_n hx hb dL_apply_5 rfl (lv_at hl 2 rfl) ?_
  refine lv_iload_n hx hb dL_apply_6 rfl (lv_at hl 3 rfl) ?_
  obtain ⟨xx1, exx1, hE⟩ := j_bd hG0 hE
  try dsimp only at hE
  refine jt_vi [.int p2, .int p3, .int p4] [.int (0 : Int32), .ref (ad q5)] jc jx jw hA hq1 (by decide) rfl (c_X9_apply hl9 hY hq1 (M := M) exx1) sd_L_118 rfl hl.1 (j_hRT hRf hRl hRc hRs rfl rfl rfl rfl) (Nat.le_of_ble_eq_true rfl) dL_apply_7 (fun H locs txx1 ce q9 ht jw hce hcv hcl => ?_) (fun H locs uxx1 hu jw => ?_)
  · subst ht
    try dsimp only at hE
    rcases Classical.em (txx1.1 = 0) with t2 | t2
    · rw [if_pos t2] at hE
      rw [t2] at hcl
      refine jw_catch (k := 0) [] (0, 12, 15, 13) [(0, 12, 19, 15), (0, 12, 23, 110)] jc jx htab rfl (by decide) (fun z hz => absurd hz List.not_mem_nil) (by decide) (by decide) wd_2_124 hce hcv hcl ?_
      refine lv_astore (lv' := [(5, .ref q9), (0, .ref (ad q1)), (1, .int p2), (2, .int p3), (3, .int p4), (4, .ref (ad q5))]) hx hb dL_apply_15 hl (by decide) rfl (fun ls hl => ?_)
      refine lv_iconst (v := 1) hx hb dL_apply_17 (by decide) ?_
      exact kr _ _ _ _ _ _ _ _ (congrArg Prod.fst (Option.some.inj (j_ret eG0 hE))) (congrArg Prod.snd (Option.some.inj (j_ret eG0 hE))) jw (j_cs hRc hRs rfl rfl) dL_apply_18
    rw [if_neg t2] at hE
    rcases Classical.em (txx1.1 = 1) with t3 | t3
    · rw [if_pos t3] at hE
      rw [t3] at hcl
      refine jw_catch (k := 1) [(0, 12, 15, 13)] (0, 12, 19, 15) [(0, 12, 23, 110)] jc jx htab rfl (by decide) (List.forall_mem_cons.mpr ⟨⟨by decide, 0, by decide, by decide, wd_2_124⟩, (fun z hz => absurd hz List.not_mem_nil)⟩) (by decide) (by decide) wd_2_125 hce hcv hcl ?_
      refine lv_astore (lv' := [(5, .ref q9), (0, .ref (ad q1)), (1, .int p2), (2, .int p3), (3, .int p4), (4, .ref (ad q5))]) hx hb dL_apply_19 hl (by decide) rfl (fun ls hl => ?_)
      refine lv_iconst (v := 2) hx hb dL_apply_21 (by decide) ?_
      exact kr _ _ _ _ _ _ _ _ (congrArg Prod.fst (Option.some.inj (j_ret eG0 hE))) (congrArg Prod.snd (Option.some.inj (j_ret eG0 hE))) jw (j_cs hRc hRs rfl rfl) dL_apply_22
    rw [if_neg t3] at hE
    rcases Classical.em (txx1.1 = 5) with t4 | t4
    · rw [if_pos t4] at hE
      rw [t4] at hcl
      refine jw_catch (k := 5) [(0, 12, 15, 13), (0, 12, 19, 15)] (0, 12, 23, 110) [] jc jx htab rfl (by decide) (List.forall_mem_cons.mpr ⟨⟨by decide, 0, by decide, by decide, wd_2_124⟩, (List.forall_mem_cons.mpr ⟨⟨by decide, 1, by decide, by decide, wd_2_125⟩, (fun z hz => absurd hz List.not_mem_nil)⟩)⟩) (by decide) (by decide) wd_5_131 hce hcv hcl ?_
      refine lv_astore (lv' := [(5, .ref q9), (0, .ref (ad q1)), (1, .int p2), (2, .int p3), (3, .int p4), (4, .ref (ad q5))]) hx hb dL_apply_23 hl (by decide) rfl (fun ls hl => ?_)
      refine lv_iconst (v := 3) hx hb dL_apply_25 (by decide) ?_
      exact kr _ _ _ _ _ _ _ _ (congrArg Prod.fst (Option.some.inj (j_ret eG0 hE))) (congrArg Prod.snd (Option.some.inj (j_ret eG0 hE))) jw (j_cs hRc hRs rfl rfl) dL_apply_26
    rw [if_neg t4] at hE
    exact absurd hE (hG0 _)
  subst hu
  try dsimp only at hE
  refine lv_i2l (v := Int32.toInt64 uxx1.1) hx hb dL_apply_10 rfl ?_
  rcases Classical.em (j_g (0 : Int32) (j_ln Y q5)) with g5 | g5
  case inr => rw [if_neg g5] at hE; exact absurd hE (hG0 _)
  rw [if_pos g5] at hE
  refine jr_last jc jw hq5 (j_g_in g5) dL_apply_11 (fun H locs jw => ?_)
  obtain ⟨mm6, emm6, hE⟩ := j_lv hE
  rw [← emm6] at jw
  try dsimp only at hE
  refine lv_goto (tgt := 27) hx hb dL_apply_12 (by decide) ?_
  refine lv_iconst (v := 0) hx hb dL_apply_27 (by decide) ?_
  exact kr _ _ _ _ _ _ _ _ (congrArg Prod.fst (Option.some.inj (j_ret eG0 hE))) (congrArg Prod.snd (Option.some.inj (j_ret eG0 hE))) jw (j_cs hRc hRs rfl rfl) dL_apply_28
def s_L_outcome (Y : JY) (M : JM) (q1 : Nat) (p2 : Int32) (p3 : Int32) (q4 : Nat) : Option (Int32 × JM) := (s_X9_outcome Y M q1 p2 p3).bind fun xx1 => match xx1 with | Sum.inl txx1 => (if txx1.1 = 3 then (some ((1 : Int32), txx1.2)) else (if txx1.1 = 0 then (some ((2 : Int32), txx1.2)) else (none))) | Sum.inr uxx1 => (if j_g (0 : Int32) (j_ln Y q4) then (lt_ (j_up uxx1.2 q4 (0 : Int32).toNatClampNeg uxx1.1) fun mm5 => some ((0 : Int32), mm5)) else none)
set_option maxRecDepth 100000 in
set_option maxHeartbeats 4000000 in
theorem c_L_outcome {D : va_G} {Y : JY} {ty : Nat → ClassId} {ad : Nat → Nat} {sz : Nat} {l : Launch} {M : JM} (hl9 : l.stackTraces = false) (hY : j_ok Y) {q1 : Nat} {p2 : Int32} {p3 : Int32} {q4 : Nat} (hq1 : j_kd Y q1 = 9) (hq4 : j_kd Y q4 = 104) {r : Int32 × JM} (hE : s_L_outcome Y M q1 p2 p3 q4 = some r) : JMw D Y ty ad sz l yL_outcome cL_outcome 5 [(0, 10, 13, 72), (0, 10, 17, 13)] 7 112 1 6 [.ref (ad q1), .int p2, .int p3, .ref (ad q4)] M r.1 r.2 := by
  refine j_ofw hY (by decide +kernel) (Nat.le_of_ble_eq_true rfl) rfl (fun p e s m below meth c args R Q A hRf hRl hRc hRs hA jc jx htab jw kr ls hl => ?_)
  have hx := jc.1
  have hb := jc.2.1
  have hl : lv_has ls 5 [(0, .ref (ad q1)), (1, .int p2), (2, .int p3), (3, .ref (ad q4))] := hl
  unfold s_L_outcome at hE
  obtain ⟨G0, eG0, hG0, hE⟩ := j_F0o hE
  refine lv_aload_n hx hb dL_outcome_0 rfl (lv_at hl 3 rfl) ?_
  refine lv_iconst (v := 0) hx hb dL_outcome_1 (by decide) ?_
  refine lv_aload_n hx hb dL_outcome_2 rfl (lv_at hl 0 rfl) ?_
  refine lv_iload_n hx hb dL_outcome_3 rfl (lv_at hl 1 rfl) ?_
  refine lv_iload_n hx hb dL_outcome_4 rfl (lv_at hl 2 rfl) ?_
  obtain ⟨xx1, exx1, hE⟩ := j_bd hG0 hE
  try dsimp only at hE
  refine jt_vi [.int p2, .int p3] [.int (0 : Int32), .ref (ad q4)] jc jx jw hA hq1 (by decide) rfl (c_X9_outcome hl9 hY hq1 (M := M) exx1) sd_L_122 rfl hl.1 (j_hRT hRf hRl hRc hRs rfl rfl rfl rfl) (Nat.le_of_ble_eq_true rfl) dL_outcome_5 (fun H locs txx1 ce q9 ht jw hce hcv hcl => ?_) (fun H locs uxx1 hu jw => ?_)
  · subst ht
    try dsimp only at hE
    rcases Classical.em (txx1.1 = 3) with t2 | t2
    · rw [if_pos t2] at hE
      rw [t2] at hcl
      refine jw_catch (k := 3) [] (0, 10, 13, 72) [(0, 10, 17, 13)] jc jx htab rfl (by decide) (fun z hz => absurd hz List.not_mem_nil) (by decide) (by decide) wd_4_103 hce hcv hcl ?_
      refine lv_astore (lv' := [(4, .ref q9), (0, .ref (ad q1)), (1, .int p2), (2, .int p3), (3, .ref (ad q4))]) hx hb dL_outcome_13 hl (by decide) rfl (fun ls hl => ?_)
      refine lv_iconst (v := 1) hx hb dL_outcome_15 (by decide) ?_
      exact kr _ _ _ _ _ _ _ _ (congrArg Prod.fst (Option.some.inj (j_ret eG0 hE))) (congrArg Prod.snd (Option.some.inj (j_ret eG0 hE))) jw (j_cs hRc hRs rfl rfl) dL_outcome_16
    rw [if_neg t2] at hE
    rcases Classical.em (txx1.1 = 0) with t3 | t3
    · rw [if_pos t3] at hE
      rw [t3] at hcl
      refine jw_catch (k := 0) [(0, 10, 13, 72)] (0, 10, 17, 13) [] jc jx htab rfl (by decide) (List.forall_mem_cons.mpr ⟨⟨by decide, 3, by decide, by decide, wd_4_103⟩, (fun z hz => absurd hz List.not_mem_nil)⟩) (by decide) (by decide) wd_2_124 hce hcv hcl ?_
      refine lv_astore (lv' := [(4, .ref q9), (0, .ref (ad q1)), (1, .int p2), (2, .int p3), (3, .ref (ad q4))]) hx hb dL_outcome_17 hl (by decide) rfl (fun ls hl => ?_)
      refine lv_iconst (v := 2) hx hb dL_outcome_19 (by decide) ?_
      exact kr _ _ _ _ _ _ _ _ (congrArg Prod.fst (Option.some.inj (j_ret eG0 hE))) (congrArg Prod.snd (Option.some.inj (j_ret eG0 hE))) jw (j_cs hRc hRs rfl rfl) dL_outcome_20
    rw [if_neg t3] at hE
    exact absurd hE (hG0 _)
  subst hu
  try dsimp only at hE
  refine lv_i2l (v := Int32.toInt64 uxx1.1) hx hb dL_outcome_8 rfl ?_
  rcases Classical.em (j_g (0 : Int32) (j_ln Y q4)) with g4 | g4
  case inr => rw [if_neg g4] at hE; exact absurd hE (hG0 _)
  rw [if_pos g4] at hE
  refine jr_last jc jw hq4 (j_g_in g4) dL_outcome_9 (fun H locs jw => ?_)
  obtain ⟨mm5, emm5, hE⟩ := j_lv hE
  rw [← emm5] at jw
  try dsimp only at hE
  refine lv_goto (tgt := 21) hx hb dL_outcome_10 (by decide) ?_
  refine lv_iconst (v := 0) hx hb dL_outcome_21 (by decide) ?_
  exact kr _ _ _ _ _ _ _ _ (congrArg Prod.fst (Option.some.inj (j_ret eG0 hE))) (congrArg Prod.snd (Option.some.inj (j_ret eG0 hE))) jw (j_cs hRc hRs rfl rfl) dL_outcome_22
def s_L_undo (Y : JY) (M : JM) (q1 : Nat) (q2 : Nat) : Option (Int32 × JM) := (s_X9_undo Y M q1).bind fun xx1 => match xx1 with | Sum.inl txx1 => (if txx1.1 = 1 then (some ((1 : Int32), txx1.2)) else (none)) | Sum.inr uxx1 => (if j_g (0 : Int32) (j_ln Y q2) then (lt_ (j_up uxx1.2 q2 (0 : Int32).toNatClampNeg uxx1.1) fun mm4 => some ((0 : Int32), mm4)) else none)
set_option maxRecDepth 100000 in
set_option maxHeartbeats 4000000 in
theorem c_L_undo {D : va_G} {Y : JY} {ty : Nat → ClassId} {ad : Nat → Nat} {sz : Nat} {l : Launch} {M : JM} (hl9 : l.stackTraces = false) (hY : j_ok Y) {q1 : Nat} {q2 : Nat} (hq1 : j_kd Y q1 = 9) (hq2 : j_kd Y q2 = 104) {r : Int32 × JM} (hE : s_L_undo Y M q1 q2 = some r) : JMw D Y ty ad sz l yL_undo cL_undo 3 [(0, 8, 11, 15)] 7 110 1 6 [.ref (ad q1), .ref (ad q2)] M r.1 r.2 := by
  refine j_ofw hY (by decide +kernel) (Nat.le_of_ble_eq_true rfl) rfl (fun p e s m below meth c args R Q A hRf hRl hRc hRs hA jc jx htab jw kr ls hl => ?_)
  have hx := jc.1
  have hb := jc.2.1
  have hl : lv_has ls 3 [(0, .ref (ad q1)), (1, .ref (ad q2))] := hl
  unfold s_L_undo at hE
  obtain ⟨G0, eG0, hG0, hE⟩ := j_F0o hE
  refine lv_aload_n hx hb dL_undo_0 rfl (lv_at hl 1 rfl) ?_
  refine lv_iconst (v := 0) hx hb dL_undo_1 (by decide) ?_
  refine lv_aload_n hx hb dL_undo_2 rfl (lv_at hl 0 rfl) ?_
  obtain ⟨xx1, exx1, hE⟩ := j_bd hG0 hE
  try dsimp only at hE
  refine jt_vi [] [.int (0 : Int32), .ref (ad q2)] jc jx jw hA hq1 (by decide) rfl (c_X9_undo hl9 hY hq1 (M := M) exx1) sd_L_125 rfl hl.1 (j_hRT hRf hRl hRc hRs rfl rfl rfl rfl) (Nat.le_of_ble_eq_true rfl) dL_undo_3 (fun H locs txx1 ce q9 ht jw hce hcv hcl => ?_) (fun H locs uxx1 hu jw => ?_)
  · subst ht
    try dsimp only at hE
    rcases Classical.em (txx1.1 = 1) with t2 | t2
    · rw [if_pos t2] at hE
      rw [t2] at hcl
      refine jw_catch (k := 1) [] (0, 8, 11, 15) [] jc jx htab rfl (by decide) (fun z hz => absurd hz List.not_mem_nil) (by decide) (by decide) wd_2_125 hce hcv hcl ?_
      refine lv_astore_n (lv' := [(2, .ref q9), (0, .ref (ad q1)), (1, .ref (ad q2))]) hx hb dL_undo_11 rfl hl (by decide) rfl (fun ls hl => ?_)
      refine lv_iconst (v := 1) hx hb dL_undo_12 (by decide) ?_
      exact kr _ _ _ _ _ _ _ _ (congrArg Prod.fst (Option.some.inj (j_ret eG0 hE))) (congrArg Prod.snd (Option.some.inj (j_ret eG0 hE))) jw (j_cs hRc hRs rfl rfl) dL_undo_13
    rw [if_neg t2] at hE
    exact absurd hE (hG0 _)
  subst hu
  try dsimp only at hE
  refine lv_i2l (v := Int32.toInt64 uxx1.1) hx hb dL_undo_6 rfl ?_
  rcases Classical.em (j_g (0 : Int32) (j_ln Y q2)) with g3 | g3
  case inr => rw [if_neg g3] at hE; exact absurd hE (hG0 _)
  rw [if_pos g3] at hE
  refine jr_last jc jw hq2 (j_g_in g3) dL_undo_7 (fun H locs jw => ?_)
  obtain ⟨mm4, emm4, hE⟩ := j_lv hE
  rw [← emm4] at jw
  try dsimp only at hE
  refine lv_goto (tgt := 14) hx hb dL_undo_8 (by decide) ?_
  refine lv_iconst (v := 0) hx hb dL_undo_14 (by decide) ?_
  exact kr _ _ _ _ _ _ _ _ (congrArg Prod.fst (Option.some.inj (j_ret eG0 hE))) (congrArg Prod.snd (Option.some.inj (j_ret eG0 hE))) jw (j_cs hRc hRs rfl rfl) dL_undo_15
def s_L_restore (Y : JY) (M : JM) (q1 : Nat) (q2 : Nat) : Option (Int32 × JM) := (s_X9_restore Y M q1).bind fun xx1 => match xx1 with | Sum.inl txx1 => (if txx1.1 = 1 then (some ((1 : Int32), txx1.2)) else (none)) | Sum.inr uxx1 => (if j_g (0 : Int32) (j_ln Y q2) then (lt_ (j_up uxx1.2 q2 (0 : Int32).toNatClampNeg uxx1.1) fun mm4 => some ((0 : Int32), mm4)) else none)
set_option maxRecDepth 100000 in
set_option maxHeartbeats 4000000 in
theorem c_L_restore {D : va_G} {Y : JY} {ty : Nat → ClassId} {ad : Nat → Nat} {sz : Nat} {l : Launch} {M : JM} (hl9 : l.stackTraces = false) (hY : j_ok Y) {q1 : Nat} {q2 : Nat} (hq1 : j_kd Y q1 = 9) (hq2 : j_kd Y q2 = 104) {r : Int32 × JM} (hE : s_L_restore Y M q1 q2 = some r) : JMw D Y ty ad sz l yL_restore cL_restore 3 [(0, 8, 11, 15)] 7 110 1 6 [.ref (ad q1), .ref (ad q2)] M r.1 r.2 := by
  refine j_ofw hY (by decide +kernel) (Nat.le_of_ble_eq_true rfl) rfl (fun p e s m below meth c args R Q A hRf hRl hRc hRs hA jc jx htab jw kr ls hl => ?_)
  have hx := jc.1
  have hb := jc.2.1
  have hl : lv_has ls 3 [(0, .ref (ad q1)), (1, .ref (ad q2))] := hl
  unfold s_L_restore at hE
  obtain ⟨G0, eG0, hG0, hE⟩ := j_F0o hE
  refine lv_aload_n hx hb dL_restore_0 rfl (lv_at hl 1 rfl) ?_
  refine lv_iconst (v := 0) hx hb dL_restore_1 (by decide) ?_
  refine lv_aload_n hx hb dL_restore_2 rfl (lv_at hl 0 rfl) ?_
  obtain ⟨xx1, exx1, hE⟩ := j_bd hG0 hE
  try dsimp only at hE
  refine jt_vi [] [.int (0 : Int32), .ref (ad q2)] jc jx jw hA hq1 (by decide) rfl (c_X9_restore hl9 hY hq1 (M := M) exx1) sd_L_128 rfl hl.1 (j_hRT hRf hRl hRc hRs rfl rfl rfl rfl) (Nat.le_of_ble_eq_true rfl) dL_restore_3 (fun H locs txx1 ce q9 ht jw hce hcv hcl => ?_) (fun H locs uxx1 hu jw => ?_)
  · subst ht
    try dsimp only at hE
    rcases Classical.em (txx1.1 = 1) with t2 | t2
    · rw [if_pos t2] at hE
      rw [t2] at hcl
      refine jw_catch (k := 1) [] (0, 8, 11, 15) [] jc jx htab rfl (by decide) (fun z hz => absurd hz List.not_mem_nil) (by decide) (by decide) wd_2_125 hce hcv hcl ?_
      refine lv_astore_n (lv' := [(2, .ref q9), (0, .ref (ad q1)), (1, .ref (ad q2))]) hx hb dL_restore_11 rfl hl (by decide) rfl (fun ls hl => ?_)
      refine lv_iconst (v := 1) hx hb dL_restore_12 (by decide) ?_
      exact kr _ _ _ _ _ _ _ _ (congrArg Prod.fst (Option.some.inj (j_ret eG0 hE))) (congrArg Prod.snd (Option.some.inj (j_ret eG0 hE))) jw (j_cs hRc hRs rfl rfl) dL_restore_13
    rw [if_neg t2] at hE
    exact absurd hE (hG0 _)
  subst hu
  try dsimp only at hE
  refine lv_i2l (v := Int32.toInt64 uxx1.1) hx hb dL_restore_6 rfl ?_
  rcases Classical.em (j_g (0 : Int32) (j_ln Y q2)) with g3 | g3
  case inr => rw [if_neg g3] at hE; exact absurd hE (hG0 _)
  rw [if_pos g3] at hE
  refine jr_last jc jw hq2 (j_g_in g3) dL_restore_7 (fun H locs jw => ?_)
  obtain ⟨mm4, emm4, hE⟩ := j_lv hE
  rw [← emm4] at jw
  try dsimp only at hE
  refine lv_goto (tgt := 14) hx hb dL_restore_8 (by decide) ?_
  refine lv_iconst (v := 0) hx hb dL_restore_14 (by decide) ?_
  exact kr _ _ _ _ _ _ _ _ (congrArg Prod.fst (Option.some.inj (j_ret eG0 hE))) (congrArg Prod.snd (Option.some.inj (j_ret eG0 hE))) jw (j_cs hRc hRs rfl rfl) dL_restore_15

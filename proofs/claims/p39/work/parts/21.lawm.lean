def s_L_applied (Y : JY) (M : JM) (q1 : Nat) : Option (Int32 × JM) := (s_X9_apply Y M q1 (3 : Int32) (0 : Int32) (0 : Int32)).bind fun xx1 => match xx1 with | Sum.inl txx1 => (if txx1.1 = 4 then (some ((-1 : Int32), txx1.2)) else (none)) | Sum.inr uxx1 => (some (uxx1.1, uxx1.2))
set_option maxRecDepth 100000 in
set_option maxHeartbeats 4000000 in
theorem c_L_applied {D : va_G} {Y : JY} {ty : Nat → ClassId} {ad : Nat → Nat} {sz : Nat} {l : Launch} {M : JM} (hl9 : l.stackTraces = false) (hY : j_ok Y) {q1 : Nat} (hq1 : j_kd Y q1 = 9) {r : Int32 × JM} (hE : s_L_applied Y M q1 = some r) : JMw D Y ty ad sz l yL_applied cL_applied 2 [(0, 7, 8, 45)] 7 178 1 6 [.ref (ad q1)] M r.1 r.2 := by
  refine j_ofw hY (by decide +kernel) (Nat.le_of_ble_eq_true rfl) rfl (fun p e s m below meth c args R Q A hRf hRl hRc hRs hA jc jx htab jw kr ls hl => ?_)
  have hx := jc.1
  have hb := jc.2.1
  have hl : lv_has ls 2 [(0, .ref (ad q1))] := hl
  unfold s_L_applied at hE
  obtain ⟨G0, eG0, hG0, hE⟩ := j_F0o hE
  refine lv_aload_n hx hb dL_applied_0 rfl (lv_at hl 0 rfl) ?_
  refine lv_iconst (v := 3) hx hb dL_applied_1 (by decide) ?_
  refine lv_iconst (v := 0) hx hb dL_applied_2 (by decide) ?_
  refine lv_iconst (v := 0) hx hb dL_applied_3 (by decide) ?_
  obtain ⟨xx1, exx1, hE⟩ := j_bd hG0 hE
  try dsimp only at hE
  refine jt_vi [.int (3 : Int32), .int (0 : Int32), .int (0 : Int32)] [] jc jx jw hA hq1 (by decide) rfl (c_X9_apply hl9 hY hq1 (M := M) exx1) sd_L_41 rfl hl.1 (j_hRT hRf hRl hRc hRs rfl rfl rfl rfl) (Nat.le_of_ble_eq_true rfl) dL_applied_4 (fun H locs txx1 ce q9 ht jw hce hcv hcl => ?_) (fun H locs uxx1 hu jw => ?_)
  · subst ht
    try dsimp only at hE
    rcases Classical.em (txx1.1 = 4) with t2 | t2
    · rw [if_pos t2] at hE
      rw [t2] at hcl
      refine jw_catch (k := 4) [] (0, 7, 8, 45) [] jc jx htab rfl (by decide) (fun z hz => absurd hz List.not_mem_nil) (by decide) (by decide) wd_4_227 hce hcv hcl ?_
      refine lv_astore_n (lv' := [(1, .ref q9), (0, .ref (ad q1))]) hx hb dL_applied_8 rfl hl (by decide) rfl (fun ls hl => ?_)
      refine lv_iconst (v := -1) hx hb dL_applied_9 (by decide) ?_
      exact kr _ _ _ _ _ _ _ _ (j_fst (Option.some.inj (j_ret eG0 hE))) (j_snd (Option.some.inj (j_ret eG0 hE))) jw (j_cs hRc hRs rfl rfl) dL_applied_10
    rw [if_neg t2] at hE
    exact absurd hE (hG0 _)
  subst hu
  try dsimp only at hE
  exact kr _ _ _ _ _ _ _ _ (j_fst (Option.some.inj (j_ret eG0 hE))) (j_snd (Option.some.inj (j_ret eG0 hE))) jw (j_cs hRc hRs rfl rfl) dL_applied_7
def lp_L_feed_1 (Y : JY) (q2 : Nat) (q1 : Nat) (n : Nat) (vv2 : Int32) (mm3 : JM) : Option (JM) := match n with
  | 0 => none
  | n + 1 => if (Int32.ofNat (j_ln Y q2)) ≤ vv2 then (some mm3) else (if j_g vv2 (j_ln Y q2) then ((s_X9_feed Y mm3 q1 (mm3 q2 vv2.toNatClampNeg)).bind fun xx6 => lt_ (vv2 + (1 : Int32)) fun vv7 => lp_L_feed_1 Y q2 q1 n vv7 xx6.2) else none)
def s_L_feed (Y : JY) (M : JM) (q1 : Nat) (q2 : Nat) : Option (JM) := (lp_L_feed_1 Y q2 q1 j_fuel (0 : Int32) M).bind fun xx8 => some xx8
set_option maxRecDepth 100000 in
set_option maxHeartbeats 4000000 in
theorem c_L_feed {D : va_G} {Y : JY} {ty : Nat → ClassId} {ad : Nat → Nat} {sz : Nat} {l : Launch} {M : JM} (hY : j_ok Y) {q1 : Nat} {q2 : Nat} (hq1 : j_kd Y q1 = 9) (hq2 : j_kd Y q2 = 102) {r : JM} (hE : s_L_feed Y M q1 q2 = some r) : JMv D Y ty ad sz l yL_feed cL_feed 3 3 63 [.ref (ad q1), .ref (ad q2)] M r := by
  refine j_ofV hY (by decide +kernel) (Nat.le_of_ble_eq_true rfl) (fun p e s m below meth c args R Q A hRf hRl hA jc jw kr ls hl => ?_)
  have hx := jc.1
  have hb := jc.2.1
  have hl : lv_has ls 3 [(0, .ref (ad q1)), (1, .ref (ad q2))] := hl
  unfold s_L_feed at hE
  obtain ⟨G0, eG0, hG0, hE⟩ := j_F0o hE
  refine lv_iconst (v := 0) hx hb dL_feed_0 (by decide) ?_
  refine lv_istore_n (lv' := [(2, .int (0 : Int32)), (0, .ref (ad q1)), (1, .ref (ad q2))]) hx hb dL_feed_1 rfl hl (by decide) rfl (fun ls hl => ?_)
  obtain ⟨G1, eG1, hG1, hE⟩ := j_ctxB hG0 hE
  have LP1 : ∀ (n : Nat) (vv2 : Int32) (mm3 : JM) (H : Heap) (locs : List Loc) (ls : Array Slot), G1 (lp_L_feed_1 Y q2 q1 n vv2 mm3) = some r → JW D Y ty ad A s.heap mm3 H locs → lv_has ls 3 [(2, .int vv2), (0, .ref (ad q1)), (1, .ref (ad q2))] → W p l e R s m args below meth c H locs 0 0 Q (F0 m 2 ls []) := by
    intro n
    induction n with
    | zero => intro vv2 mm3 H locs ls hE jw hl; exact absurd hE (hG1 _)
    | succ n ih =>
      intro vv2 mm3 H locs ls hE jw hl
      rw [lp_L_feed_1] at hE
      refine lv_iload_n hx hb dL_feed_2 rfl (lv_at hl 0 rfl) ?_
      refine lv_aload_n hx hb dL_feed_3 rfl (lv_at hl 2 rfl) ?_
      refine jr_alenc jc jw hq2 dL_feed_4 ?_
      refine lv_icmp_ge (tgt := 22) hx hb dL_feed_5 (by decide) (fun c4 => ?_) (fun c4 => ?_)
      · rw [if_pos c4] at hE
        replace hE := j_popB eG1 hE
        try dsimp only at hE
        exact kr _ _ _ _ _ (Option.some.inj (j_ret eG0 hE)) jw dL_feed_22
      · rw [if_neg c4] at hE
        refine lv_aload_n hx hb dL_feed_8 rfl (lv_at hl 1 rfl) ?_
        refine lv_aload_n hx hb dL_feed_9 rfl (lv_at hl 2 rfl) ?_
        refine lv_iload_n hx hb dL_feed_10 rfl (lv_at hl 0 rfl) ?_
        rcases Classical.em (j_g vv2 (j_ln Y q2)) with g5 | g5
        case inr => rw [if_neg g5] at hE; exact absurd hE (hG1 _)
        rw [if_pos g5] at hE
        refine jr_cald jc jw hq2 (j_g_in g5) dL_feed_11 ?_
        obtain ⟨xx6, exx6, hE⟩ := j_bd hG1 hE
        try dsimp only at hE
        refine jc_vi [.int (mm3 q2 vv2.toNatClampNeg)] [] jc jw hA hq1 (by decide) rfl (c_X9_feed hY hq1 (M := mm3) exx6) sd_L_47 rfl hl.1 (j_hR hRf hRl rfl rfl) (Nat.le_of_ble_eq_true rfl) dL_feed_12 (fun H locs jw => ?_)
        refine lv_pop hx hb dL_feed_15 rfl ?_
        obtain ⟨vv7, evv7, hE⟩ := j_lv hE
        try dsimp only at hE
        refine lv_iinc (v := vv7) (lv' := [(2, .int vv7), (0, .ref (ad q1)), (1, .ref (ad q2))]) hx hb dL_feed_16 hl (k := 0) rfl (by rw [evv7]; rfl) (by decide) rfl (fun ls hl => ?_)
        refine lv_goto (tgt := 2) hx hb dL_feed_19 (by decide) ?_
        exact ih vv7 xx6.2 H locs ls hE jw (lv_sub hl [0, 1, 2] rfl)
  exact LP1 j_fuel (0 : Int32) M s.heap [] ls hE jw (lv_sub hl [0, 1, 2] rfl)

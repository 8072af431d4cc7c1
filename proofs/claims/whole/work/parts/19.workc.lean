def s_X10_similarity (Y : JY) (M : JM) (o : Nat) : Option (UInt64 × JM) := lt_ (if (j_z (M o 25)) = 0 then ((1 : Int32)) else (if ((M o 27) + (M o 29)) = 0 then ((2 : Int32)) else ((0 : Int32)))) fun xx9 => lt_ (j_up M o 0 xx9) fun mm5 => if (mm5 o 0) = 0 then ((s_X10_pairMany Y mm5 o).bind fun xx7 => if (FP.ddiv (FP.i2d ((2 : Int32) * xx7)) (FP.i2d ((mm5 o 27) + (mm5 o 29))) &&& (0x7fffffffffffffff : UInt64)) ≤ (0x7ff0000000000000 : UInt64) then (some ((FP.ddiv (FP.i2d ((2 : Int32) * xx7)) (FP.i2d ((mm5 o 27) + (mm5 o 29)))), mm5)) else none) else (some ((0 : UInt64), mm5))
set_option maxRecDepth 100000 in
set_option maxHeartbeats 4000000 in
theorem c_X10_similarity {D : va_G} {Y : JY} {ty : Nat → ClassId} {ad : Nat → Nat} {sz : Nat} {l : Launch} {M : JM} (hY : j_ok Y) {o : Nat} (ho : j_kd Y o = 10) {r : UInt64 × JM} (hE : s_X10_similarity Y M o = some r) : JMd D Y ty ad sz l yX10_similarity cX10_similarity 1 1 22 [.ref (ad o)] M r.1 r.2 := by
  refine j_ofD hY (by decide +kernel) (Nat.le_of_ble_eq_true rfl) (fun p e s m below meth c args R Q A hRf hRl hA jc jw kr ls hl => ?_)
  have hx := jc.1
  have hb := jc.2.1
  have hl : lv_has ls 1 [(0, .ref (ad o))] := hl
  unfold s_X10_similarity at hE
  obtain ⟨G0, eG0, hG0, hE⟩ := j_F0o hE
  refine lv_aload_n hx hb dX10_similarity_0 rfl (lv_at hl 0 rfl) ?_
  refine lv_aload_n hx hb dX10_similarity_1 rfl (lv_at hl 0 rfl) ?_
  refine jg_10_25 jc jw ho wd_6_84 dX10_similarity_2 ?_
  obtain ⟨G2, eG2, hE⟩ := j_ctxL hE
  have J2 : ∀ (vv4 : Int32)  (H : Heap) (locs : List Loc) (ls : Array Slot), G2 (vv4) = some r → JW D Y ty ad A s.heap M H locs → lv_has ls 1 [(0, .ref (ad o))] → W p l e R s m args below meth c H locs 0 0 Q (F0 m 29 ls [.int vv4, .ref (ad o)]) := by
    intro vv4  H locs ls hE jw hl
    replace hE := j_popL eG2 hE
    try dsimp only at hE
    refine js_10_0 jc jw ho wd_6_59 dX10_similarity_29 (fun H locs jw => ?_)
    obtain ⟨mm5, emm5, hE⟩ := j_lv hE
    rw [← emm5] at jw
    try dsimp only at hE
    refine lv_aload_n hx hb dX10_similarity_32 rfl (lv_at hl 0 rfl) ?_
    refine jg_10_0 jc jw ho wd_6_59 dX10_similarity_33 ?_
    refine lv_if_eq (tgt := 43) hx hb dX10_similarity_36 (by decide) (fun c6 => ?_) (fun c6 => ?_)
    · rw [if_pos c6] at hE
      refine lv_iconst (v := 2) hx hb dX10_similarity_43 (by decide) ?_
      refine lv_aload_n hx hb dX10_similarity_44 rfl (lv_at hl 0 rfl) ?_
      obtain ⟨xx7, exx7, hE⟩ := j_bd hG0 hE
      try dsimp only at hE
      refine jc_vi [] [.int (2 : Int32)] jc jw hA ho (by decide) rfl (c_X10_pairMany hY ho (M := mm5) exx7) sd_X10_236 rfl hl.1 (j_hR hRf hRl rfl rfl) (Nat.le_of_ble_eq_true rfl) dX10_similarity_45 (fun H locs jw => ?_)
      refine lv_imul hx hb dX10_similarity_48 ?_
      refine lv_i2d hx hb dX10_similarity_49 ?_
      refine lv_aload_n hx hb dX10_similarity_50 rfl (lv_at hl 0 rfl) ?_
      refine jg_10_27 jc jw ho wd_6_86 dX10_similarity_51 ?_
      refine lv_aload_n hx hb dX10_similarity_54 rfl (lv_at hl 0 rfl) ?_
      refine jg_10_29 jc jw ho wd_6_88 dX10_similarity_55 ?_
      refine lv_iadd hx hb dX10_similarity_58 ?_
      refine lv_i2d hx hb dX10_similarity_59 ?_
      rcases Classical.em ((FP.ddiv (FP.i2d ((2 : Int32) * xx7)) (FP.i2d ((mm5 o 27) + (mm5 o 29))) &&& (0x7fffffffffffffff : UInt64)) ≤ (0x7ff0000000000000 : UInt64)) with g8 | g8
      case inr => rw [if_neg g8] at hE; exact absurd hE (hG0 _)
      rw [if_pos g8] at hE
      refine lv_ddiv hx hb dX10_similarity_60 g8 ?_
      exact kr _ _ _ _ _ _ (congrArg Prod.fst (Option.some.inj (j_ret eG0 hE))) (congrArg Prod.snd (Option.some.inj (j_ret eG0 hE))) jw dX10_similarity_61
    · rw [if_neg c6] at hE
      refine lv_dconst0 hx hb dX10_similarity_39 ?_
      refine lv_goto (tgt := 61) hx hb dX10_similarity_40 (by decide) ?_
      exact kr _ _ _ _ _ _ (congrArg Prod.fst (Option.some.inj (j_ret eG0 hE))) (congrArg Prod.snd (Option.some.inj (j_ret eG0 hE))) jw dX10_similarity_61
  refine lv_if_ne (tgt := 12) hx hb dX10_similarity_5 (by decide) (fun c1 => ?_) (fun c1 => ?_)
  · rw [if_neg c1] at hE
    refine lv_aload_n hx hb dX10_similarity_12 rfl (lv_at hl 0 rfl) ?_
    refine jg_10_27 jc jw ho wd_6_86 dX10_similarity_13 ?_
    refine lv_aload_n hx hb dX10_similarity_16 rfl (lv_at hl 0 rfl) ?_
    refine jg_10_29 jc jw ho wd_6_88 dX10_similarity_17 ?_
    refine lv_iadd hx hb dX10_similarity_20 ?_
    refine lv_if_ne (tgt := 28) hx hb dX10_similarity_21 (by decide) (fun c3 => ?_) (fun c3 => ?_)
    · rw [if_neg c3] at hE
      refine lv_iconst (v := 0) hx hb dX10_similarity_28 (by decide) ?_
      exact J2 (0 : Int32)  s.heap [] ls hE jw (lv_sub hl [0] rfl)
    · rw [if_pos c3] at hE
      refine lv_iconst (v := 2) hx hb dX10_similarity_24 (by decide) ?_
      refine lv_goto (tgt := 29) hx hb dX10_similarity_25 (by decide) ?_
      exact J2 (2 : Int32)  s.heap [] ls hE jw (lv_sub hl [0] rfl)
  · rw [if_pos c1] at hE
    refine lv_iconst (v := 1) hx hb dX10_similarity_8 (by decide) ?_
    refine lv_goto (tgt := 29) hx hb dX10_similarity_9 (by decide) ?_
    exact J2 (1 : Int32)  s.heap [] ls hE jw (lv_sub hl [0] rfl)

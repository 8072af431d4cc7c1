/-! ===== where all lies in a layout that grew; what holds at the beginning ===== -/
theorem mt_f_skip {t : JY × JM} {T : List (JY × JM)} {o o' n k : Nat} (hl : t.1.1.length = n) (ho : n + o' = o) : mt_f (t :: T) o k = mt_f T o' k := by
  show (if o < t.1.1.length then t.2 o k else mt_f T (o - t.1.1.length) k) = _
  rw [if_neg (by omega), show o - t.1.1.length = o' by omega]
theorem mt_f_take {Y : JY} {N : JM} {T : List (JY × JM)} {o n k : Nat} (hl : Y.1.length = n) (ho : o < n) : mt_f ((Y, N) :: T) o k = N o k := by
  show (if o < Y.1.length then N o k else mt_f T (o - Y.1.length) k) = _
  rw [if_pos (by omega)]
theorem mt_tree_sub {M0 : Nat → Int32} {T : List (JY × JM)} {o k : Nat} : mt_tree M0 T (o + 1) k = mt_f T o k := if_neg (by omega)
set_option maxRecDepth 100000 in
theorem mt_X9_80 : mt_X9 80 = mt_TA 25 0 := funext (fun k => (((mt_tree_sub (o := 79)).trans ((mt_f_skip (n := 12) (o' := 67) rfl rfl).trans ((mt_f_skip (n := 12) (o' := 55) rfl rfl).trans ((mt_f_skip (n := 23) (o' := 32) rfl rfl).trans ((mt_f_skip (n := 5) (o' := 27) rfl rfl).trans ((mt_f_skip (n := 2) (o' := 25) rfl rfl).trans ((mt_f_skip (n := 11) (o' := 14) rfl rfl).trans ((mt_f_take (n := 26) rfl (by decide)).trans ((mt_tree_sub (o := 13)).trans ((mt_f_skip (n := 2) (o' := 11) rfl rfl).trans ((mt_f_skip (n := 2) (o' := 9) rfl rfl).trans ((mt_f_take (n := 11) rfl (by decide)).trans ((mt_tree_sub (o := 8)).trans ((mt_f_skip (n := 2) (o' := 6) rfl rfl).trans ((mt_f_skip (n := 2) (o' := 4) rfl rfl).trans ((mt_f_skip (n := 2) (o' := 2) rfl rfl).trans ((mt_f_skip (n := 2) (o' := 0) rfl rfl).trans (mt_f_take (n := 2) rfl (by decide)))))))))))))))))))))
set_option maxRecDepth 100000 in
theorem mt_X9_81 : mt_X9 81 = mt_TA 25 1 := funext (fun k => (((mt_tree_sub (o := 80)).trans ((mt_f_skip (n := 12) (o' := 68) rfl rfl).trans ((mt_f_skip (n := 12) (o' := 56) rfl rfl).trans ((mt_f_skip (n := 23) (o' := 33) rfl rfl).trans ((mt_f_skip (n := 5) (o' := 28) rfl rfl).trans ((mt_f_skip (n := 2) (o' := 26) rfl rfl).trans ((mt_f_skip (n := 11) (o' := 15) rfl rfl).trans ((mt_f_take (n := 26) rfl (by decide)).trans ((mt_tree_sub (o := 14)).trans ((mt_f_skip (n := 2) (o' := 12) rfl rfl).trans ((mt_f_skip (n := 2) (o' := 10) rfl rfl).trans ((mt_f_take (n := 11) rfl (by decide)).trans ((mt_tree_sub (o := 9)).trans ((mt_f_skip (n := 2) (o' := 7) rfl rfl).trans ((mt_f_skip (n := 2) (o' := 5) rfl rfl).trans ((mt_f_skip (n := 2) (o' := 3) rfl rfl).trans ((mt_f_skip (n := 2) (o' := 1) rfl rfl).trans (mt_f_take (n := 2) rfl (by decide)))))))))))))))))))))
set_option maxRecDepth 100000 in
theorem mt_X9_108 : mt_X9 108 = mt_TA 25 0 := funext (fun k => (((mt_tree_sub (o := 107)).trans ((mt_f_skip (n := 12) (o' := 95) rfl rfl).trans ((mt_f_skip (n := 12) (o' := 83) rfl rfl).trans ((mt_f_skip (n := 23) (o' := 60) rfl rfl).trans ((mt_f_skip (n := 5) (o' := 55) rfl rfl).trans ((mt_f_skip (n := 2) (o' := 53) rfl rfl).trans ((mt_f_skip (n := 11) (o' := 42) rfl rfl).trans ((mt_f_skip (n := 26) (o' := 16) rfl rfl).trans ((mt_f_take (n := 35) rfl (by decide)).trans ((mt_tree_sub (o := 15)).trans ((mt_f_skip (n := 2) (o' := 13) rfl rfl).trans ((mt_f_skip (n := 2) (o' := 11) rfl rfl).trans ((mt_f_skip (n := 2) (o' := 9) rfl rfl).trans ((mt_f_take (n := 11) rfl (by decide)).trans ((mt_tree_sub (o := 8)).trans ((mt_f_skip (n := 2) (o' := 6) rfl rfl).trans ((mt_f_skip (n := 2) (o' := 4) rfl rfl).trans ((mt_f_skip (n := 2) (o' := 2) rfl rfl).trans ((mt_f_skip (n := 2) (o' := 0) rfl rfl).trans (mt_f_take (n := 2) rfl (by decide)))))))))))))))))))))))
set_option maxRecDepth 100000 in
theorem mt_X9_109 : mt_X9 109 = mt_TA 25 1 := funext (fun k => (((mt_tree_sub (o := 108)).trans ((mt_f_skip (n := 12) (o' := 96) rfl rfl).trans ((mt_f_skip (n := 12) (o' := 84) rfl rfl).trans ((mt_f_skip (n := 23) (o' := 61) rfl rfl).trans ((mt_f_skip (n := 5) (o' := 56) rfl rfl).trans ((mt_f_skip (n := 2) (o' := 54) rfl rfl).trans ((mt_f_skip (n := 11) (o' := 43) rfl rfl).trans ((mt_f_skip (n := 26) (o' := 17) rfl rfl).trans ((mt_f_take (n := 35) rfl (by decide)).trans ((mt_tree_sub (o := 16)).trans ((mt_f_skip (n := 2) (o' := 14) rfl rfl).trans ((mt_f_skip (n := 2) (o' := 12) rfl rfl).trans ((mt_f_skip (n := 2) (o' := 10) rfl rfl).trans ((mt_f_take (n := 11) rfl (by decide)).trans ((mt_tree_sub (o := 9)).trans ((mt_f_skip (n := 2) (o' := 7) rfl rfl).trans ((mt_f_skip (n := 2) (o' := 5) rfl rfl).trans ((mt_f_skip (n := 2) (o' := 3) rfl rfl).trans ((mt_f_skip (n := 2) (o' := 1) rfl rfl).trans (mt_f_take (n := 2) rfl (by decide)))))))))))))))))))))))
set_option maxRecDepth 100000 in
theorem mt_X9_119 : mt_X9 119 = mt_TA 25 0 := funext (fun k => (((mt_tree_sub (o := 118)).trans ((mt_f_skip (n := 12) (o' := 106) rfl rfl).trans ((mt_f_skip (n := 12) (o' := 94) rfl rfl).trans ((mt_f_skip (n := 23) (o' := 71) rfl rfl).trans ((mt_f_skip (n := 5) (o' := 66) rfl rfl).trans ((mt_f_skip (n := 2) (o' := 64) rfl rfl).trans ((mt_f_skip (n := 11) (o' := 53) rfl rfl).trans ((mt_f_skip (n := 26) (o' := 27) rfl rfl).trans ((mt_f_take (n := 35) rfl (by decide)).trans ((mt_tree_sub (o := 26)).trans ((mt_f_skip (n := 2) (o' := 24) rfl rfl).trans ((mt_f_skip (n := 2) (o' := 22) rfl rfl).trans ((mt_f_skip (n := 2) (o' := 20) rfl rfl).trans ((mt_f_skip (n := 11) (o' := 9) rfl rfl).trans ((mt_f_take (n := 11) rfl (by decide)).trans ((mt_tree_sub (o := 8)).trans ((mt_f_skip (n := 2) (o' := 6) rfl rfl).trans ((mt_f_skip (n := 2) (o' := 4) rfl rfl).trans ((mt_f_skip (n := 2) (o' := 2) rfl rfl).trans ((mt_f_skip (n := 2) (o' := 0) rfl rfl).trans (mt_f_take (n := 2) rfl (by decide))))))))))))))))))))))))
set_option maxRecDepth 100000 in
theorem mt_X9_120 : mt_X9 120 = mt_TA 25 1 := funext (fun k => (((mt_tree_sub (o := 119)).trans ((mt_f_skip (n := 12) (o' := 107) rfl rfl).trans ((mt_f_skip (n := 12) (o' := 95) rfl rfl).trans ((mt_f_skip (n := 23) (o' := 72) rfl rfl).trans ((mt_f_skip (n := 5) (o' := 67) rfl rfl).trans ((mt_f_skip (n := 2) (o' := 65) rfl rfl).trans ((mt_f_skip (n := 11) (o' := 54) rfl rfl).trans ((mt_f_skip (n := 26) (o' := 28) rfl rfl).trans ((mt_f_take (n := 35) rfl (by decide)).trans ((mt_tree_sub (o := 27)).trans ((mt_f_skip (n := 2) (o' := 25) rfl rfl).trans ((mt_f_skip (n := 2) (o' := 23) rfl rfl).trans ((mt_f_skip (n := 2) (o' := 21) rfl rfl).trans ((mt_f_skip (n := 11) (o' := 10) rfl rfl).trans ((mt_f_take (n := 11) rfl (by decide)).trans ((mt_tree_sub (o := 9)).trans ((mt_f_skip (n := 2) (o' := 7) rfl rfl).trans ((mt_f_skip (n := 2) (o' := 5) rfl rfl).trans ((mt_f_skip (n := 2) (o' := 3) rfl rfl).trans ((mt_f_skip (n := 2) (o' := 1) rfl rfl).trans (mt_f_take (n := 2) rfl (by decide))))))))))))))))))))))))
set_option maxRecDepth 100000 in
theorem mt_X9_46 : mt_X9 46 = mt_F8 0 := funext (fun k => (((mt_tree_sub (o := 45)).trans ((mt_f_skip (n := 12) (o' := 33) rfl rfl).trans ((mt_f_skip (n := 12) (o' := 21) rfl rfl).trans ((mt_f_take (n := 23) rfl (by decide)).trans ((mt_tree_sub (o := 20)).trans ((mt_f_skip (n := 20) (o' := 0) rfl rfl).trans (mt_f_take (n := 2) rfl (by decide))))))))))
set_option maxRecDepth 100000 in
theorem mt_X9_47 : mt_X9 47 = mt_F8 1 := funext (fun k => (((mt_tree_sub (o := 46)).trans ((mt_f_skip (n := 12) (o' := 34) rfl rfl).trans ((mt_f_skip (n := 12) (o' := 22) rfl rfl).trans ((mt_f_take (n := 23) rfl (by decide)).trans ((mt_tree_sub (o := 21)).trans ((mt_f_skip (n := 20) (o' := 1) rfl rfl).trans (mt_f_take (n := 2) rfl (by decide))))))))))
theorem TB.at {M M' : JM} {o o' cap c : Nat} {rs : List (List Int32)} (h : TB M o cap c rs) (e0 : M' o' = M o) (e1 : M' (o' + 1) = M (o + 1)) : TB M' o' cap c rs := by
  obtain ⟨h1, h2, h3, h4, h5⟩ := h
  exact ⟨by rw [e0]; exact h1, by rw [e0]; exact h2, h3, fun i hi j hj => by rw [e1]; exact h4 i hi j hj, h5⟩
theorem LN.at {M M' : JM} {o o' cap : Nat} {xs : List Int32} (h : LN M o cap xs) (e0 : M' o' = M o) (e1 : M' (o' + 1) = M (o + 1)) : LN M' o' cap xs := by
  obtain ⟨h1, h2, h3⟩ := h
  exact ⟨by rw [e0]; exact h1, h2, fun i hi => by rw [e1]; exact h3 i hi⟩
theorem TB.no {M : JM} {o cap c : Nat} (h1 : M o 1 = nI c) (h2 : M o 2 = 0) : TB M o cap c [] := ⟨h1, h2, by simp, fun _ hi => absurd hi (Nat.not_lt_zero _), fun _ hr => absurd hr List.not_mem_nil⟩
set_option maxRecDepth 100000 in
theorem yt_X9_H : YH yt_X9 := by
  refine ⟨⟨by decide +kernel, ?_⟩, ⟨by decide +kernel, ?_⟩, ⟨by decide +kernel, ?_⟩, ⟨by decide +kernel, ?_⟩, ⟨by decide +kernel, ?_⟩, ⟨by decide +kernel, ?_⟩, ⟨by decide +kernel, ?_⟩, ⟨by decide +kernel, ?_⟩⟩
  · unfold ShAt LnAt; decide +kernel
  · unfold ShAt LnAt; decide +kernel
  · refine ⟨by decide +kernel, ?_, by decide +kernel, ?_⟩
    · unfold ShAt LnAt; decide +kernel
    · unfold LnAt; decide +kernel
  · unfold InAt LnAt; decide +kernel
  · unfold LnAt; decide +kernel
  · refine ⟨⟨by decide +kernel, ?_⟩, ⟨by decide +kernel, ?_⟩, ⟨by decide +kernel, ?_⟩, ⟨by decide +kernel, ?_⟩, ⟨by decide +kernel, ?_⟩, ⟨by decide +kernel, ?_⟩, ⟨by decide +kernel, ?_⟩, ⟨by decide +kernel, ?_⟩⟩ <;> first | (unfold LnAt; decide +kernel) | (unfold TbAt; decide +kernel) | (unfold AlAt LnAt TbAt; decide +kernel)
  · refine ⟨⟨by decide +kernel, ?_⟩, ⟨by decide +kernel, ?_⟩, ⟨by decide +kernel, ?_⟩, ⟨by decide +kernel, ?_⟩, ⟨by decide +kernel, ?_⟩, ⟨by decide +kernel, ?_⟩, ⟨by decide +kernel, ?_⟩, ⟨by decide +kernel, ?_⟩⟩ <;> first | (unfold LnAt; decide +kernel) | (unfold TbAt; decide +kernel) | (unfold AlAt LnAt TbAt; decide +kernel)
  · refine ⟨⟨by decide +kernel, ?_⟩, ⟨by decide +kernel, ?_⟩, ⟨by decide +kernel, ?_⟩, ⟨by decide +kernel, ?_⟩, ⟨by decide +kernel, ?_⟩, ⟨by decide +kernel, ?_⟩⟩ <;> first | (unfold LnAt; decide +kernel) | (unfold TbAt; decide +kernel)
section YES
variable {Y : JY} {o k v cap n : Nat}
theorem YE.rf (h : YE Y) (ho : o < 140) (d : j_rf yt_X9 o k = v) : j_rf Y o k = v := ((h.2.2.2 o ho).2.1 k).trans d
theorem YE.lnn (h : YE Y) (ho : o < 140) (d : j_ln yt_X9 o = v) : j_ln Y o = v := ((h.2.2.2 o ho).2.2).trans d
theorem YE.kd (h : YE Y) (ho : o < 140) (d : j_kd yt_X9 o = v) : j_kd Y o = v := ((h.2.2.2 o ho).1).trans d
theorem YE.ln (h : YE Y) (ho : o + 2 ≤ 140) (d : LnAt yt_X9 o cap) : LnAt Y o cap := ⟨h.rf (by omega) d.1, h.lnn (by omega) d.2.1, d.2.2⟩
theorem YE.tb (h : YE Y) (ho : o + 2 ≤ 140) (d : TbAt yt_X9 o cap) : TbAt Y o cap := ⟨h.rf (by omega) d.1, h.lnn (by omega) d.2.1, d.2.2⟩
theorem YE.sh (h : YE Y) (ho : o + 4 + 2 * n ≤ 140) (d : ShAt yt_X9 o n) : ShAt Y o n := by
  obtain ⟨a, b, c, e, f⟩ := d
  exact ⟨h.rf (by omega) a, h.rf (by omega) b, h.lnn (by omega) c, e, fun i hi => ⟨h.rf (by omega) (f i hi).1, h.ln (by omega) (f i hi).2⟩⟩
theorem YE.hs (h : YE Y) (ho : o + 23 ≤ 140) (d : HsAt yt_X9 o) : HsAt Y o := by
  obtain ⟨a, b, c, e⟩ := d
  exact ⟨h.rf (by omega) a, h.sh (by omega) b, h.rf (by omega) c, h.ln (by omega) e⟩
theorem YE.al (h : YE Y) (ho : o + 11 ≤ 140) (d : AlAt yt_X9 o) : AlAt Y o := by
  obtain ⟨⟨a0, b0⟩, ⟨a1, b1⟩, ⟨a2, b2⟩, ⟨a3, b3⟩, ⟨a4, b4⟩⟩ := d
  exact ⟨⟨h.rf (by omega) a0, h.ln (by omega) b0⟩, ⟨h.rf (by omega) a1, h.ln (by omega) b1⟩, ⟨h.rf (by omega) a2, h.ln (by omega) b2⟩, ⟨h.rf (by omega) a3, h.ln (by omega) b3⟩, ⟨h.rf (by omega) a4, h.tb (by omega) b4⟩⟩
theorem YE.inp (h : YE Y) (ho : o + 5 ≤ 140) (d : InAt yt_X9 o) : InAt Y o := by
  obtain ⟨⟨a0, b0⟩, ⟨a1, b1⟩⟩ := d
  exact ⟨⟨h.rf (by omega) a0, h.ln (by omega) b0⟩, ⟨h.rf (by omega) a1, h.ln (by omega) b1⟩⟩
theorem YE.cm (h : YE Y) (ho : o + 26 ≤ 140) (d : CmAt yt_X9 o) : CmAt Y o := by
  obtain ⟨⟨a0, b0⟩, ⟨a1, b1⟩, ⟨a2, b2⟩, ⟨a3, b3⟩, ⟨a4, b4⟩, ⟨a5, b5⟩, ⟨a6, b6⟩, ⟨a7, b7⟩⟩ := d
  exact ⟨⟨h.rf (by omega) a0, h.ln (by omega) b0⟩, ⟨h.rf (by omega) a1, h.ln (by omega) b1⟩, ⟨h.rf (by omega) a2, h.al (by omega) b2⟩, ⟨h.rf (by omega) a3, h.tb (by omega) b3⟩, ⟨h.rf (by omega) a4, h.ln (by omega) b4⟩, ⟨h.rf (by omega) a5, h.tb (by omega) b5⟩, ⟨h.rf (by omega) a6, h.ln (by omega) b6⟩, ⟨h.rf (by omega) a7, h.ln (by omega) b7⟩⟩
theorem YE.mg (h : YE Y) (ho : o + 35 ≤ 140) (d : MgAt yt_X9 o) : MgAt Y o := by
  obtain ⟨⟨a0, b0⟩, ⟨a1, b1⟩, ⟨a2, b2⟩, ⟨a3, b3⟩, ⟨a4, b4⟩, ⟨a5, b5⟩, ⟨a6, b6⟩, ⟨a7, b7⟩⟩ := d
  exact ⟨⟨h.rf (by omega) a0, h.ln (by omega) b0⟩, ⟨h.rf (by omega) a1, h.ln (by omega) b1⟩, ⟨h.rf (by omega) a2, h.ln (by omega) b2⟩, ⟨h.rf (by omega) a3, h.al (by omega) b3⟩, ⟨h.rf (by omega) a4, h.al (by omega) b4⟩, ⟨h.rf (by omega) a5, h.tb (by omega) b5⟩, ⟨h.rf (by omega) a6, h.ln (by omega) b6⟩, ⟨h.rf (by omega) a7, h.ln (by omega) b7⟩⟩
theorem YE.pc (h : YE Y) (ho : o + 13 ≤ 140) (d : PcAt yt_X9 o) : PcAt Y o := by
  obtain ⟨⟨a0, b0⟩, ⟨a1, b1⟩, ⟨a2, b2⟩, ⟨a3, b3⟩, ⟨a4, b4⟩, ⟨a5, b5⟩⟩ := d
  exact ⟨⟨h.rf (by omega) a0, h.ln (by omega) b0⟩, ⟨h.rf (by omega) a1, h.ln (by omega) b1⟩, ⟨h.rf (by omega) a2, h.tb (by omega) b2⟩, ⟨h.rf (by omega) a3, h.tb (by omega) b3⟩, ⟨h.rf (by omega) a4, h.tb (by omega) b4⟩, ⟨h.rf (by omega) a5, h.ln (by omega) b5⟩⟩
theorem YE.H (h : YE Y) : YH Y := by
  obtain ⟨⟨a0, b0⟩, ⟨a1, b1⟩, ⟨a2, b2⟩, ⟨a3, b3⟩, ⟨a4, b4⟩, ⟨a6, b6⟩, ⟨a7, b7⟩, ⟨a8, b8⟩⟩ := yt_X9_H
  exact ⟨⟨h.rf (by omega) a0, h.sh (by omega) b0⟩, ⟨h.rf (by omega) a1, h.sh (by omega) b1⟩, ⟨h.rf (by omega) a2, h.hs (by omega) b2⟩, ⟨h.rf (by omega) a3, h.inp (by omega) b3⟩, ⟨h.rf (by omega) a4, h.ln (by omega) b4⟩, ⟨h.rf (by omega) a6, h.cm (by omega) b6⟩, ⟨h.rf (by omega) a7, h.mg (by omega) b7⟩, ⟨h.rf (by omega) a8, h.pc (by omega) b8⟩⟩
end YES
set_option maxRecDepth 100000 in
theorem mt_ST : ST mt_X9 0 1 (fun _ => []) [] [] (fun _ => []) 0 0 := by
  refine ⟨⟨by decide +kernel, by decide +kernel, by decide +kernel, by decide +kernel⟩, fun i hi => LN.nil ((by decide +kernel : ∀ i, i < 4 → mt_X9 (1 + 4 + 2 * i) 1 = 0) i hi), fun i hi => LN.nil ((by decide +kernel : ∀ i, i < 4 → mt_X9 (13 + 4 + 2 * i) 1 = 0) i hi), ?_, LN.nil (by decide +kernel), [], LN.nil (by decide +kernel)⟩
  exact ⟨0, List.replicate 8 (nI 0), fun _ => [], by decide, by decide +kernel, by decide +kernel, by decide, mt_F8_ok.2.at mt_X9_46 mt_X9_47, List.length_replicate, fun i hi => LN.nil ((by decide +kernel : ∀ i, i < 8 → mt_X9 (25 + 1 + 4 + 2 * i) 1 = 0) i hi), fun _ hk => absurd hk (Nat.not_lt_zero _)⟩
set_option maxRecDepth 100000 in
theorem mt_CM : CM mt_X9 66 false [] [] [] 0 [] := ⟨by decide +kernel, TB.no (by decide +kernel) (by decide +kernel), by decide +kernel, ⟨_, List.length_replicate, (mt_TA_ok 25 (Nat.le_refl _)).at mt_X9_80 mt_X9_81⟩, fun e => by cases e⟩
set_option maxRecDepth 100000 in
theorem mt_MG : MG mt_X9 92 false [] [] [] [] (fun _ => 0) := ⟨by decide +kernel, ⟨_, List.length_replicate, (mt_TA_ok 25 (Nat.le_refl _)).at mt_X9_108 mt_X9_109⟩, ⟨_, List.length_replicate, (mt_TA_ok 25 (Nat.le_refl _)).at mt_X9_119 mt_X9_120⟩, by decide +kernel, fun e => by cases e⟩
set_option maxRecDepth 100000 in
theorem mt_PC : PC mt_X9 127 false [] [] [] [] := ⟨by decide +kernel, by decide +kernel, by decide +kernel, TB.no (by decide +kernel) (by decide +kernel), fun e => by cases e⟩

/-! ===== the whole: where all lies, and what holds at the beginning ===== -/
theorem mt_f_skip {t : JY × JM} {T : List (JY × JM)} {o o' n k : Nat} (hl : t.1.1.length = n) (ho : n + o' = o) : mt_f (t :: T) o k = mt_f T o' k := by
  show (if o < t.1.1.length then t.2 o k else mt_f T (o - t.1.1.length) k) = _
  rw [if_neg (by omega), show o - t.1.1.length = o' by omega]
theorem mt_f_take {Y : JY} {N : JM} {T : List (JY × JM)} {o n k : Nat} (hl : Y.1.length = n) (ho : o < n) : mt_f ((Y, N) :: T) o k = N o k := by
  show (if o < Y.1.length then N o k else mt_f T (o - Y.1.length) k) = _
  rw [if_pos (by omega)]
theorem mt_tree_sub {M0 : Nat → Int32} {T : List (JY × JM)} {o k : Nat} : mt_tree M0 T (o + 1) k = mt_f T o k := if_neg (by omega)
def yt_J : JY := ([104], fun _ _ => 0, fun _ => 1)
def yt_D : JY := ([105], fun _ _ => 0, fun _ => 1)
theorem yt_J_cl : yt_cl yt_J := ⟨by decide, fun _ _ _ => by show 0 < 1; decide⟩
theorem yt_D_cl : yt_cl yt_D := ⟨by decide, fun _ _ _ => by show 0 < 1; decide⟩
theorem getD_lt {l : List Nat} {n : Nat} (h : ∀ x ∈ l, x < n) (h0 : 0 < n) (k : Nat) : l.getD k 0 < n := by
  rw [List.getD_eq_getElem?_getD]
  cases e : l[k]? with
  | none => exact h0
  | some v => exact h v (List.mem_of_getElem? e)
theorem yt_M_cl : yt_cl yt_M := ⟨by decide, by
  have key : ∀ o k, o < 34 → j_rf yt_M o k < 34 := fun o k ho => by
    unfold j_rf yt_M
    dsimp only
    by_cases h : o = 0
    · rw [if_pos h]
      exact getD_lt (by decide) (by decide) k
    · rw [if_neg h]
      exact ho
  exact key⟩
def tl_Y : List (JY × JM) := [(yt_X9, mt_X9), (yt_M, mt_M), (yt_J, mt_0), (yt_D, mt_0)]
def yt_Y : JY := (yt_kd tl_Y, fun o k => yt_rf tl_Y 0 o k, fun o => yt_ln tl_Y o)
def mt_Y : JM := mt_f tl_Y
theorem tl_Y_cl : ∀ t ∈ tl_Y, yt_cl t.1 := List.forall_mem_cons.mpr ⟨yt_X9_cl, List.forall_mem_cons.mpr ⟨yt_M_cl, List.forall_mem_cons.mpr ⟨yt_J_cl, List.forall_mem_cons.mpr ⟨yt_D_cl, fun _ h => absurd h List.not_mem_nil⟩⟩⟩⟩
set_option maxRecDepth 100000 in
theorem wt_Y {ty : Nat → ClassId} {f9 fM fJ fD : Nat → Nat} : j_w yt_Y ty (at_f tl_Y [f9, fM, fJ, fD]) mt_Y = wt_f ty tl_Y [f9, fM, fJ, fD] := by
  have e := wt_eq (ty := ty) tl_Y [f9, fM, fJ, fD] 0 yt_Y (at_f tl_Y [f9, fM, fJ, fD]) mt_Y rfl tl_Y_cl (fun o _ => by
    rw [Nat.zero_add]
    exact ⟨rfl, rfl, rfl, fun _ => rfl, rfl⟩)
  rw [← e]
  unfold j_w
  refine List.map_congr_left (fun o _ => ?_)
  rw [Nat.zero_add]
set_option maxRecDepth 100000 in
theorem yt_Y_len : yt_Y.1.length = 176 := by decide +kernel
set_option maxRecDepth 100000 in
theorem yt_Y_ok : j_ok yt_Y := by
  refine ⟨?_, ?_, ?_⟩
  · decide +kernel
  · decide +kernel
  · decide +kernel
set_option maxRecDepth 100000 in
theorem yt_Y_kd : j_kd yt_Y 0 = 9 ∧ j_kd yt_Y 140 = 10 ∧ j_kd yt_Y 174 = 104 ∧ j_kd yt_Y 175 = 105 := by decide +kernel
set_option maxRecDepth 100000 in
theorem yt_Y_H : YH yt_Y := by
  refine ⟨⟨by decide +kernel, ?_⟩, ⟨by decide +kernel, ?_⟩, ⟨by decide +kernel, ?_⟩, ⟨by decide +kernel, ?_⟩, ⟨by decide +kernel, ?_⟩, ⟨by decide +kernel, ?_⟩, ⟨by decide +kernel, ?_⟩, ⟨by decide +kernel, ?_⟩, ⟨by decide +kernel, ?_⟩, ?_, by decide +kernel, by decide +kernel⟩
  · unfold ShAt LnAt; decide +kernel
  · unfold ShAt LnAt; decide +kernel
  · refine ⟨by decide +kernel, ?_, by decide +kernel, ?_⟩
    · unfold ShAt LnAt; decide +kernel
    · unfold LnAt; decide +kernel
  · unfold InAt LnAt; decide +kernel
  · unfold LnAt; decide +kernel
  · unfold AlAt LnAt TbAt; decide +kernel
  · refine ⟨⟨by decide +kernel, ?_⟩, ⟨by decide +kernel, ?_⟩, ⟨by decide +kernel, ?_⟩, ⟨by decide +kernel, ?_⟩, ⟨by decide +kernel, ?_⟩, ⟨by decide +kernel, ?_⟩, ⟨by decide +kernel, ?_⟩, ⟨by decide +kernel, ?_⟩⟩ <;> first | (unfold LnAt; decide +kernel) | (unfold TbAt; decide +kernel) | (unfold AlAt LnAt TbAt; decide +kernel)
  · refine ⟨⟨by decide +kernel, ?_⟩, ⟨by decide +kernel, ?_⟩, ⟨by decide +kernel, ?_⟩, ⟨by decide +kernel, ?_⟩, ⟨by decide +kernel, ?_⟩, ⟨by decide +kernel, ?_⟩, ⟨by decide +kernel, ?_⟩, ⟨by decide +kernel, ?_⟩⟩ <;> first | (unfold LnAt; decide +kernel) | (unfold TbAt; decide +kernel) | (unfold AlAt LnAt TbAt; decide +kernel)
  · refine ⟨⟨by decide +kernel, ?_⟩, ⟨by decide +kernel, ?_⟩, ⟨by decide +kernel, ?_⟩, ⟨by decide +kernel, ?_⟩, ⟨by decide +kernel, ?_⟩, ⟨by decide +kernel, ?_⟩⟩ <;> first | (unfold LnAt; decide +kernel) | (unfold TbAt; decide +kernel)
  · unfold MdAt; decide +kernel
set_option maxRecDepth 100000 in
theorem mt_Y_64 : mt_Y 64 = mt_TA 25 0 := funext (fun k => ((mt_f_take (n := 140) rfl (by decide)).trans ((mt_tree_sub (o := 63)).trans ((mt_f_skip (n := 12) (o' := 51) rfl rfl).trans ((mt_f_skip (n := 12) (o' := 39) rfl rfl).trans ((mt_f_skip (n := 23) (o' := 16) rfl rfl).trans ((mt_f_skip (n := 5) (o' := 11) rfl rfl).trans ((mt_f_skip (n := 2) (o' := 9) rfl rfl).trans ((mt_f_take (n := 11) rfl (by decide)).trans ((mt_tree_sub (o := 8)).trans ((mt_f_skip (n := 2) (o' := 6) rfl rfl).trans ((mt_f_skip (n := 2) (o' := 4) rfl rfl).trans ((mt_f_skip (n := 2) (o' := 2) rfl rfl).trans ((mt_f_skip (n := 2) (o' := 0) rfl rfl).trans (mt_f_take (n := 2) rfl (by decide))))))))))))))))
set_option maxRecDepth 100000 in
theorem mt_Y_65 : mt_Y 65 = mt_TA 25 1 := funext (fun k => ((mt_f_take (n := 140) rfl (by decide)).trans ((mt_tree_sub (o := 64)).trans ((mt_f_skip (n := 12) (o' := 52) rfl rfl).trans ((mt_f_skip (n := 12) (o' := 40) rfl rfl).trans ((mt_f_skip (n := 23) (o' := 17) rfl rfl).trans ((mt_f_skip (n := 5) (o' := 12) rfl rfl).trans ((mt_f_skip (n := 2) (o' := 10) rfl rfl).trans ((mt_f_take (n := 11) rfl (by decide)).trans ((mt_tree_sub (o := 9)).trans ((mt_f_skip (n := 2) (o' := 7) rfl rfl).trans ((mt_f_skip (n := 2) (o' := 5) rfl rfl).trans ((mt_f_skip (n := 2) (o' := 3) rfl rfl).trans ((mt_f_skip (n := 2) (o' := 1) rfl rfl).trans (mt_f_take (n := 2) rfl (by decide))))))))))))))))
set_option maxRecDepth 100000 in
theorem mt_Y_80 : mt_Y 80 = mt_TA 25 0 := funext (fun k => ((mt_f_take (n := 140) rfl (by decide)).trans ((mt_tree_sub (o := 79)).trans ((mt_f_skip (n := 12) (o' := 67) rfl rfl).trans ((mt_f_skip (n := 12) (o' := 55) rfl rfl).trans ((mt_f_skip (n := 23) (o' := 32) rfl rfl).trans ((mt_f_skip (n := 5) (o' := 27) rfl rfl).trans ((mt_f_skip (n := 2) (o' := 25) rfl rfl).trans ((mt_f_skip (n := 11) (o' := 14) rfl rfl).trans ((mt_f_take (n := 26) rfl (by decide)).trans ((mt_tree_sub (o := 13)).trans ((mt_f_skip (n := 2) (o' := 11) rfl rfl).trans ((mt_f_skip (n := 2) (o' := 9) rfl rfl).trans ((mt_f_take (n := 11) rfl (by decide)).trans ((mt_tree_sub (o := 8)).trans ((mt_f_skip (n := 2) (o' := 6) rfl rfl).trans ((mt_f_skip (n := 2) (o' := 4) rfl rfl).trans ((mt_f_skip (n := 2) (o' := 2) rfl rfl).trans ((mt_f_skip (n := 2) (o' := 0) rfl rfl).trans (mt_f_take (n := 2) rfl (by decide)))))))))))))))))))))
set_option maxRecDepth 100000 in
theorem mt_Y_81 : mt_Y 81 = mt_TA 25 1 := funext (fun k => ((mt_f_take (n := 140) rfl (by decide)).trans ((mt_tree_sub (o := 80)).trans ((mt_f_skip (n := 12) (o' := 68) rfl rfl).trans ((mt_f_skip (n := 12) (o' := 56) rfl rfl).trans ((mt_f_skip (n := 23) (o' := 33) rfl rfl).trans ((mt_f_skip (n := 5) (o' := 28) rfl rfl).trans ((mt_f_skip (n := 2) (o' := 26) rfl rfl).trans ((mt_f_skip (n := 11) (o' := 15) rfl rfl).trans ((mt_f_take (n := 26) rfl (by decide)).trans ((mt_tree_sub (o := 14)).trans ((mt_f_skip (n := 2) (o' := 12) rfl rfl).trans ((mt_f_skip (n := 2) (o' := 10) rfl rfl).trans ((mt_f_take (n := 11) rfl (by decide)).trans ((mt_tree_sub (o := 9)).trans ((mt_f_skip (n := 2) (o' := 7) rfl rfl).trans ((mt_f_skip (n := 2) (o' := 5) rfl rfl).trans ((mt_f_skip (n := 2) (o' := 3) rfl rfl).trans ((mt_f_skip (n := 2) (o' := 1) rfl rfl).trans (mt_f_take (n := 2) rfl (by decide)))))))))))))))))))))
set_option maxRecDepth 100000 in
theorem mt_Y_108 : mt_Y 108 = mt_TA 25 0 := funext (fun k => ((mt_f_take (n := 140) rfl (by decide)).trans ((mt_tree_sub (o := 107)).trans ((mt_f_skip (n := 12) (o' := 95) rfl rfl).trans ((mt_f_skip (n := 12) (o' := 83) rfl rfl).trans ((mt_f_skip (n := 23) (o' := 60) rfl rfl).trans ((mt_f_skip (n := 5) (o' := 55) rfl rfl).trans ((mt_f_skip (n := 2) (o' := 53) rfl rfl).trans ((mt_f_skip (n := 11) (o' := 42) rfl rfl).trans ((mt_f_skip (n := 26) (o' := 16) rfl rfl).trans ((mt_f_take (n := 35) rfl (by decide)).trans ((mt_tree_sub (o := 15)).trans ((mt_f_skip (n := 2) (o' := 13) rfl rfl).trans ((mt_f_skip (n := 2) (o' := 11) rfl rfl).trans ((mt_f_skip (n := 2) (o' := 9) rfl rfl).trans ((mt_f_take (n := 11) rfl (by decide)).trans ((mt_tree_sub (o := 8)).trans ((mt_f_skip (n := 2) (o' := 6) rfl rfl).trans ((mt_f_skip (n := 2) (o' := 4) rfl rfl).trans ((mt_f_skip (n := 2) (o' := 2) rfl rfl).trans ((mt_f_skip (n := 2) (o' := 0) rfl rfl).trans (mt_f_take (n := 2) rfl (by decide)))))))))))))))))))))))
set_option maxRecDepth 100000 in
theorem mt_Y_109 : mt_Y 109 = mt_TA 25 1 := funext (fun k => ((mt_f_take (n := 140) rfl (by decide)).trans ((mt_tree_sub (o := 108)).trans ((mt_f_skip (n := 12) (o' := 96) rfl rfl).trans ((mt_f_skip (n := 12) (o' := 84) rfl rfl).trans ((mt_f_skip (n := 23) (o' := 61) rfl rfl).trans ((mt_f_skip (n := 5) (o' := 56) rfl rfl).trans ((mt_f_skip (n := 2) (o' := 54) rfl rfl).trans ((mt_f_skip (n := 11) (o' := 43) rfl rfl).trans ((mt_f_skip (n := 26) (o' := 17) rfl rfl).trans ((mt_f_take (n := 35) rfl (by decide)).trans ((mt_tree_sub (o := 16)).trans ((mt_f_skip (n := 2) (o' := 14) rfl rfl).trans ((mt_f_skip (n := 2) (o' := 12) rfl rfl).trans ((mt_f_skip (n := 2) (o' := 10) rfl rfl).trans ((mt_f_take (n := 11) rfl (by decide)).trans ((mt_tree_sub (o := 9)).trans ((mt_f_skip (n := 2) (o' := 7) rfl rfl).trans ((mt_f_skip (n := 2) (o' := 5) rfl rfl).trans ((mt_f_skip (n := 2) (o' := 3) rfl rfl).trans ((mt_f_skip (n := 2) (o' := 1) rfl rfl).trans (mt_f_take (n := 2) rfl (by decide)))))))))))))))))))))))
set_option maxRecDepth 100000 in
theorem mt_Y_119 : mt_Y 119 = mt_TA 25 0 := funext (fun k => ((mt_f_take (n := 140) rfl (by decide)).trans ((mt_tree_sub (o := 118)).trans ((mt_f_skip (n := 12) (o' := 106) rfl rfl).trans ((mt_f_skip (n := 12) (o' := 94) rfl rfl).trans ((mt_f_skip (n := 23) (o' := 71) rfl rfl).trans ((mt_f_skip (n := 5) (o' := 66) rfl rfl).trans ((mt_f_skip (n := 2) (o' := 64) rfl rfl).trans ((mt_f_skip (n := 11) (o' := 53) rfl rfl).trans ((mt_f_skip (n := 26) (o' := 27) rfl rfl).trans ((mt_f_take (n := 35) rfl (by decide)).trans ((mt_tree_sub (o := 26)).trans ((mt_f_skip (n := 2) (o' := 24) rfl rfl).trans ((mt_f_skip (n := 2) (o' := 22) rfl rfl).trans ((mt_f_skip (n := 2) (o' := 20) rfl rfl).trans ((mt_f_skip (n := 11) (o' := 9) rfl rfl).trans ((mt_f_take (n := 11) rfl (by decide)).trans ((mt_tree_sub (o := 8)).trans ((mt_f_skip (n := 2) (o' := 6) rfl rfl).trans ((mt_f_skip (n := 2) (o' := 4) rfl rfl).trans ((mt_f_skip (n := 2) (o' := 2) rfl rfl).trans ((mt_f_skip (n := 2) (o' := 0) rfl rfl).trans (mt_f_take (n := 2) rfl (by decide))))))))))))))))))))))))
set_option maxRecDepth 100000 in
theorem mt_Y_120 : mt_Y 120 = mt_TA 25 1 := funext (fun k => ((mt_f_take (n := 140) rfl (by decide)).trans ((mt_tree_sub (o := 119)).trans ((mt_f_skip (n := 12) (o' := 107) rfl rfl).trans ((mt_f_skip (n := 12) (o' := 95) rfl rfl).trans ((mt_f_skip (n := 23) (o' := 72) rfl rfl).trans ((mt_f_skip (n := 5) (o' := 67) rfl rfl).trans ((mt_f_skip (n := 2) (o' := 65) rfl rfl).trans ((mt_f_skip (n := 11) (o' := 54) rfl rfl).trans ((mt_f_skip (n := 26) (o' := 28) rfl rfl).trans ((mt_f_take (n := 35) rfl (by decide)).trans ((mt_tree_sub (o := 27)).trans ((mt_f_skip (n := 2) (o' := 25) rfl rfl).trans ((mt_f_skip (n := 2) (o' := 23) rfl rfl).trans ((mt_f_skip (n := 2) (o' := 21) rfl rfl).trans ((mt_f_skip (n := 11) (o' := 10) rfl rfl).trans ((mt_f_take (n := 11) rfl (by decide)).trans ((mt_tree_sub (o := 9)).trans ((mt_f_skip (n := 2) (o' := 7) rfl rfl).trans ((mt_f_skip (n := 2) (o' := 5) rfl rfl).trans ((mt_f_skip (n := 2) (o' := 3) rfl rfl).trans ((mt_f_skip (n := 2) (o' := 1) rfl rfl).trans (mt_f_take (n := 2) rfl (by decide))))))))))))))))))))))))
set_option maxRecDepth 100000 in
theorem mt_Y_46 : mt_Y 46 = mt_F8 0 := funext (fun k => ((mt_f_take (n := 140) rfl (by decide)).trans ((mt_tree_sub (o := 45)).trans ((mt_f_skip (n := 12) (o' := 33) rfl rfl).trans ((mt_f_skip (n := 12) (o' := 21) rfl rfl).trans ((mt_f_take (n := 23) rfl (by decide)).trans ((mt_tree_sub (o := 20)).trans ((mt_f_skip (n := 20) (o' := 0) rfl rfl).trans (mt_f_take (n := 2) rfl (by decide))))))))))
set_option maxRecDepth 100000 in
theorem mt_Y_47 : mt_Y 47 = mt_F8 1 := funext (fun k => ((mt_f_take (n := 140) rfl (by decide)).trans ((mt_tree_sub (o := 46)).trans ((mt_f_skip (n := 12) (o' := 34) rfl rfl).trans ((mt_f_skip (n := 12) (o' := 22) rfl rfl).trans ((mt_f_take (n := 23) rfl (by decide)).trans ((mt_tree_sub (o := 21)).trans ((mt_f_skip (n := 20) (o' := 1) rfl rfl).trans (mt_f_take (n := 2) rfl (by decide))))))))))
theorem TB.at {M M' : JM} {o o' cap c : Nat} {rs : List (List Int32)} (h : TB M o cap c rs) (e0 : M' o' = M o) (e1 : M' (o' + 1) = M (o + 1)) : TB M' o' cap c rs := by
  obtain ⟨h1, h2, h3, h4, h5⟩ := h
  exact ⟨by rw [e0]; exact h1, by rw [e0]; exact h2, h3, fun i hi j hj => by rw [e1]; exact h4 i hi j hj, h5⟩
theorem LN.at {M M' : JM} {o o' cap : Nat} {xs : List Int32} (h : LN M o cap xs) (e0 : M' o' = M o) (e1 : M' (o' + 1) = M (o + 1)) : LN M' o' cap xs := by
  obtain ⟨h1, h2, h3⟩ := h
  exact ⟨by rw [e0]; exact h1, h2, fun i hi => by rw [e1]; exact h3 i hi⟩
theorem TB.no {M : JM} {o cap c : Nat} (h1 : M o 1 = nI c) (h2 : M o 2 = 0) : TB M o cap c [] := ⟨h1, h2, by simp, fun _ hi => absurd hi (Nat.not_lt_zero _), fun _ hr => absurd hr List.not_mem_nil⟩
theorem TBm.no {M : JM} {a w : Nat} : TBm M a w [] := fun _ hi => absurd hi (Nat.not_lt_zero _)
theorem RA.no {M : JM} {a : Nat} : RA M a [] := fun _ hi => absurd hi (Nat.not_lt_zero _)
theorem DM.no {M : JM} {om : Nat} (h : ∀ r, r < 4 → M (om + 2) r = 0) : DM M om (fun _ => []) := fun r hr => ⟨h r hr, Nat.zero_le _, fun _ hi => absurd hi (Nat.not_lt_zero _)⟩
set_option maxRecDepth 100000 in
theorem mt_Y_R : RLL mt_Y := by
  have tt := mt_TA_ok 25 (Nat.le_refl _)
  have tl : (List.replicate 25 (List.replicate 25 (-1 : Int32))).length = 25 := List.length_replicate
  refine ⟨?_, ?_, ?_, ?_, ?_, ?_, ?_, ?_, ?_, ?_⟩
  · exact ⟨by decide +kernel, by decide +kernel, by decide +kernel, by decide +kernel⟩
  · exact ⟨fun _ => [], fun i hi => LN.nil ((by decide +kernel : ∀ i, i < 4 → mt_Y (1 + 4 + 2 * i) 1 = 0) i hi), DM.no (by decide +kernel)⟩
  · exact ⟨fun _ => [], fun i hi => LN.nil ((by decide +kernel : ∀ i, i < 4 → mt_Y (13 + 4 + 2 * i) 1 = 0) i hi), by decide +kernel, by decide +kernel, Or.inl (by decide +kernel)⟩
  · exact ⟨[], ⟨0, List.replicate 8 (nI 0), fun _ => [], by decide, by decide +kernel, by decide +kernel, by decide, mt_F8_ok.2.at mt_Y_46 mt_Y_47, List.length_replicate, fun i hi => LN.nil ((by decide +kernel : ∀ i, i < 8 → mt_Y (25 + 1 + 4 + 2 * i) 1 = 0) i hi), fun _ hk => absurd hk (Nat.not_lt_zero _)⟩, by decide +kernel, by decide, fun k r xs hk => by simp at hk⟩
  · exact ⟨[], LN.nil (by decide +kernel), by decide +kernel, by decide, RA.no⟩
  · exact ⟨[], LN.nil (by decide +kernel)⟩
  · exact ⟨_, tl, tt.at mt_Y_64 mt_Y_65⟩
  · exact ⟨false, [], [], [], 0, [], ⟨by decide +kernel, TB.no (by decide +kernel) (by decide +kernel), by decide +kernel, ⟨_, tl, tt.at mt_Y_80 mt_Y_81⟩, fun e => by cases e⟩, by decide +kernel, by decide +kernel, TBm.no, by decide, fun e => by cases e⟩
  · exact ⟨false, [], [], [], [], fun _ => 0, ⟨by decide +kernel, ⟨_, tl, tt.at mt_Y_108 mt_Y_109⟩, ⟨_, tl, tt.at mt_Y_119 mt_Y_120⟩, by decide +kernel, fun e => by cases e⟩, by decide +kernel, fun e => by cases e⟩
  · exact ⟨false, [], [], [], [], ⟨by decide +kernel, by decide +kernel, by decide +kernel, TB.no (by decide +kernel) (by decide +kernel), fun e => by cases e⟩, by decide +kernel, fun _ => ⟨by decide +kernel, rfl⟩, fun e => by cases e⟩

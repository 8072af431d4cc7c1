/-! ===== pure: moves; the class's search ===== -/
theorem l_of_succ {n : Nat} {f : Nat → Int32} : l_of (n + 1) f = l_of n f ++ [f n] := by
  unfold l_of
  rw [List.range_succ, List.map_append]
  rfl
theorem q_fl_succ {n : Nat} {f : Nat → Bool} : q_fl (n + 1) f = q_fl n f ++ [if f n = true then 1 else 0] := l_of_succ
def q_fa (P : List (Nat × Nat)) : Nat → Bool := fun i => (lk P i).isNone
def q_fb (P : List (Nat × Nat)) : Nat → Bool := fun j => (lk2 P j).isNone
theorem lk2_lt {P : List (Nat × Nat)} {j k i1 j1 : Nat} (hb : PB P i1 j1) (h : lk2 P j = some k) : k < i1 ∧ j < j1 := by
  unfold lk2 at h
  cases hf : P.find? (fun p => p.2 == j) with
  | none => rw [hf] at h; exact absurd h (by simp)
  | some p =>
    rw [hf] at h
    have h1 := List.mem_of_find?_eq_some hf
    have h2 := List.find?_some hf
    have h3 := hb p h1
    simp at h h2
    rw [← h, ← h2]
    exact h3
section CMW
variable {Y : JY} {M : JM} {o : Nat} {xs ys : List Int32} {P : List (Nat × Nat)} {anc : Nat} {fa fb : Nat → Bool} {rs : List (List Int32)}
theorem p_isSecondKept {al n m : Nat} (hy : AlAt Y al) (h : AL M al n m P anc rs) {j : Nat} (hj : j < m) (hP : PB P n m) (hn : n < 1000) : s_X0_isSecondKept Y M al (nI j) = if (lk2 P j).isSome then 1 else 0 := by
  obtain ⟨-, ⟨y1, z1⟩, -⟩ := hy
  have h9 := h.2.1.2.1
  rw [l_of_len] at h9
  unfold s_X0_isSecondKept
  rw [y1, p_at z1 h.2.1, l_of_at hj (by omega)]
  cases hl : lk2 P j with
  | none => rfl
  | some i =>
    have := (lk2_lt hP hl).1
    have e : ¬ oI (some i) = (-1 : Int32) := nI_m1 (by omega)
    rw [if_neg e]
    rfl
theorem p_free1 (hy : CmAt Y o) (hB : PB P xs.length ys.length) : ∀ (d i n : Nat) (M : JM), xs.length = i + d → d < n → LN M (o + 1) 24 xs → LN M (o + 3) 24 ys → AL M (o + 5) xs.length ys.length P anc rs → LN M (o + 22) 24 (q_fl i (q_fa P)) →
    ∃ M', lp_X1_freeAllButKept_1 Y o n (nI i) M = some M' ∧ JFr (o + 22) (o + 24) M M' ∧ LN M' (o + 22) 24 (q_fl xs.length (q_fa P)) := by
  obtain ⟨⟨y0, z0⟩, ⟨y1, z1⟩, ⟨y2, z2⟩, -, -, -, ⟨y6, z6⟩, ⟨y7, z7⟩⟩ := hy
  intro d
  induction d with
  | zero =>
    intro i n M hi hn h1 h2 hA h3
    obtain ⟨n, rfl⟩ : ∃ z, n = z + 1 := ⟨n - 1, by omega⟩
    have e1 := h1.2.1
    refine ⟨M, ?_, JFr.refl, by rw [show xs.length = i by omega]; exact h3⟩
    unfold lp_X1_freeAllButKept_1
    rw [y0, p_size h1, if_pos (nI_le (by omega) (by omega))]
  | succ d ih =>
    intro i n M hi hn h1 h2 hA h3
    obtain ⟨n, rfl⟩ : ∃ z, n = z + 1 := ⟨n - 1, by omega⟩
    have e1 := h1.2.1
    have e2 := h2.2.1
    have hv : (if (if (lk P i).isSome then (1 : Int32) else 0) = 0 then (1 : Int32) else 0) = if q_fa P i = true then 1 else 0 := by
      unfold q_fa
      cases lk P i <;> rfl
    have r1 := p_push_LN z6 h3 (by rw [q_fl_len]; omega) (if q_fa P i = true then 1 else 0)
    have r2 := p_push_fr z6 h3 (by rw [q_fl_len]; omega) (if q_fa P i = true then 1 else 0)
    rw [← q_fl_succ] at r1
    obtain ⟨M', a1, a2, a3⟩ := ih (i + 1) n _ (by omega) (by omega) (h1.frame r2 (by omega)) (h2.frame r2 (by omega)) (hA.frame r2 (by omega)) r1
    refine ⟨M', ?_, (r2.mono (by omega) (by omega)).trans a2, a3⟩
    unfold lp_X1_freeAllButKept_1
    rw [y0, p_size h1, if_neg (nI_ge (by omega) (by omega)), y2, y6, p_isFirstKept z2 hA (show i < xs.length by omega) hB (by omega), hv]
    dsimp only [lt_]
    rw [nI_1]
    exact a1
theorem p_free2 (hy : CmAt Y o) (hB : PB P xs.length ys.length) : ∀ (d j n : Nat) (M : JM), ys.length = j + d → d < n → LN M (o + 1) 24 xs → LN M (o + 3) 24 ys → AL M (o + 5) xs.length ys.length P anc rs → LN M (o + 24) 24 (q_fl j (q_fb P)) →
    ∃ M', lp_X1_freeAllButKept_2 Y o n (nI j) M = some M' ∧ JFr (o + 24) (o + 26) M M' ∧ LN M' (o + 24) 24 (q_fl ys.length (q_fb P)) := by
  obtain ⟨⟨y0, z0⟩, ⟨y1, z1⟩, ⟨y2, z2⟩, -, -, -, ⟨y6, z6⟩, ⟨y7, z7⟩⟩ := hy
  intro d
  induction d with
  | zero =>
    intro j n M hj hn h1 h2 hA h3
    obtain ⟨n, rfl⟩ : ∃ z, n = z + 1 := ⟨n - 1, by omega⟩
    have e2 := h2.2.1
    refine ⟨M, ?_, JFr.refl, by rw [show ys.length = j by omega]; exact h3⟩
    unfold lp_X1_freeAllButKept_2
    rw [y1, p_size h2, if_pos (nI_le (by omega) (by omega))]
  | succ d ih =>
    intro j n M hj hn h1 h2 hA h3
    obtain ⟨n, rfl⟩ : ∃ z, n = z + 1 := ⟨n - 1, by omega⟩
    have e1 := h1.2.1
    have e2 := h2.2.1
    have hv : (if (if (lk2 P j).isSome then (1 : Int32) else 0) = 0 then (1 : Int32) else 0) = if q_fb P j = true then 1 else 0 := by
      unfold q_fb
      cases lk2 P j <;> rfl
    have r1 := p_push_LN z7 h3 (by rw [q_fl_len]; omega) (if q_fb P j = true then 1 else 0)
    have r2 := p_push_fr z7 h3 (by rw [q_fl_len]; omega) (if q_fb P j = true then 1 else 0)
    rw [← q_fl_succ] at r1
    obtain ⟨M', a1, a2, a3⟩ := ih (j + 1) n _ (by omega) (by omega) (h1.frame r2 (by omega)) (h2.frame r2 (by omega)) (hA.frame r2 (by omega)) r1
    refine ⟨M', ?_, (r2.mono (by omega) (by omega)).trans a2, a3⟩
    unfold lp_X1_freeAllButKept_2
    rw [y1, p_size h2, if_neg (nI_ge (by omega) (by omega)), y2, y7, p_isSecondKept z2 hA (show j < ys.length by omega) hB (by omega), hv]
    dsimp only [lt_]
    rw [nI_1]
    exact a1
theorem p_freeAll (hy : CmAt Y o) (hB : PB P xs.length ys.length) (h1 : LN M (o + 1) 24 xs) (h2 : LN M (o + 3) 24 ys) (hA : AL M (o + 5) xs.length ys.length P anc rs) :
    ∃ M', s_X1_freeAllButKept Y M o = some M' ∧ JFr (o + 22) (o + 26) M M' ∧ LN M' (o + 22) 24 (q_fl xs.length (q_fa P)) ∧ LN M' (o + 24) 24 (q_fl ys.length (q_fb P)) := by
  have hy' := hy
  obtain ⟨-, -, -, -, -, -, ⟨y6, z6⟩, ⟨y7, z7⟩⟩ := hy
  have t1 := p_clear_LN (Y := Y) (M := M) (o := o + 22) (cap := 24)
  have f1 := p_clear_fr (Y := Y) (M := M) (o := o + 22)
  obtain ⟨M1, hM1⟩ : ∃ z, z = s_X4_clear Y M (o + 22) := ⟨_, rfl⟩
  rw [← hM1] at t1 f1
  obtain ⟨M2, a1, a2, a3⟩ := p_free1 hy' hB xs.length 0 j_fuel M1 (by omega) (j_fuel_gt (by have := h1.2.1; omega)) (h1.frame f1 (by omega)) (h2.frame f1 (by omega)) (hA.frame f1 (by omega)) t1
  have F2 : JFr (o + 22) (o + 24) M M2 := (f1.mono (by omega) (by omega)).trans a2
  have t3 := p_clear_LN (Y := Y) (M := M2) (o := o + 24) (cap := 24)
  have f3 := p_clear_fr (Y := Y) (M := M2) (o := o + 24)
  obtain ⟨M3, hM3⟩ : ∃ z, z = s_X4_clear Y M2 (o + 24) := ⟨_, rfl⟩
  rw [← hM3] at t3 f3
  have F3 : JFr (o + 22) (o + 26) M M3 := (F2.mono (by omega) (by omega)).trans (f3.mono (by omega) (by omega))
  obtain ⟨M4, b1, b2, b3⟩ := p_free2 hy' hB ys.length 0 j_fuel M3 (by omega) (j_fuel_gt (by have := h2.2.1; omega)) (h1.frame F3 (by omega)) (h2.frame F3 (by omega)) (hA.frame F3 (by omega)) t3
  refine ⟨M4, ?_, F3.trans (b2.mono (by omega) (by omega)), (a3.frame f3 (by omega)).frame b2 (by omega), b3⟩
  unfold s_X1_freeAllButKept
  rw [y6, y7]
  dsimp only [lt_]
  rw [nI_0] at a1 b1
  rw [← hM1, a1]
  dsimp only [Option.bind]
  rw [← hM3, b1]
theorem p_search_loop (hy : CmAt Y o) {mn : Nat} (hm : 1 ≤ mn) (hm9 : mn ≤ 9) : ∀ (d i n : Nat) (M : JM) (fa fb : Nat → Bool) (mv : List (List Int32)), 24 = i + d → d < n → LN M (o + 1) 24 xs → LN M (o + 3) 24 ys → LN M (o + 22) 24 (q_fl xs.length fa) → LN M (o + 24) 24 (q_fl ys.length fb) → TB M (o + 20) 72 3 mv → mv.length ≤ i →
    ∃ M', lp_X1_searchMoves_1 Y o (nI mn) n 1 (nI i) M = some M' ∧ JFr (o + 20) (o + 26) M M' ∧ TB M' (o + 20) 72 3 (q_mv xs ys mn d fa fb mv) := by
  intro d
  induction d with
  | zero =>
    intro i n M fa fb mv hi hn h1 h2 h3 h4 hT hl
    obtain ⟨n, rfl⟩ : ∃ z, n = z + 1 := ⟨n - 1, by omega⟩
    refine ⟨M, ?_, JFr.refl, hT⟩
    unfold lp_X1_searchMoves_1
    rw [if_pos (Or.inr (by rw [show (24 : Int32) = nI 24 from rfl]; exact nI_le (by omega) (by omega)))]
  | succ d ih =>
    intro i n M fa fb mv hi hn h1 h2 h3 h4 hT hl
    obtain ⟨n, rfl⟩ : ∃ z, n = z + 1 := ⟨n - 1, by omega⟩
    obtain ⟨M1, a1, a2, a3, a4⟩ := p_addLongestMove hy h1 h2 h3 h4 hT (by omega) hm hm9
    have e : ¬ (24 : Int32) ≤ nI i := by rw [show (24 : Int32) = nI 24 from rfl]; exact nI_ge (by omega) (by omega)
    unfold lp_X1_searchMoves_1 q_mv
    rw [if_neg (by rintro (c | c); exact absurd c (by decide); exact e c), a1]
    dsimp only [Option.bind, lt_]
    by_cases q : (q_best xs ys fa fb).1 < mn
    · rw [if_pos q, if_pos q]
      obtain ⟨n, rfl⟩ : ∃ z, n = z + 1 := ⟨n - 1, by omega⟩
      refine ⟨M1, ?_, a2, a3 q⟩
      unfold lp_X1_searchMoves_1
      rw [if_pos (Or.inl rfl)]
    · rw [if_neg q, if_neg q, nI_1]
      obtain ⟨b1, b2, b3⟩ := a4 q
      obtain ⟨M2, c1, c2, c3⟩ := ih (i + 1) n M1 _ _ _ (by omega) (by omega) (h1.frame a2 (by omega)) (h2.frame a2 (by omega)) b1 b2 b3 (by rw [List.length_append, List.length_singleton]; omega)
      exact ⟨M2, c1, a2.trans c2, c3⟩
theorem p_searchMoves (hy : CmAt Y o) {mn : Nat} (hm : 1 ≤ mn) (hm9 : mn ≤ 9) {mv : List (List Int32)} (hC : CM M o true xs ys P anc mv) :
    ∃ M', s_X1_searchMoves Y M o (nI mn) = some (nI (q_mv xs ys mn 24 (q_fa P) (q_fb P) []).length, M') ∧ JFr (o + 20) (o + 26) M M' ∧ CM M' o true xs ys P anc (q_mv xs ys mn 24 (q_fa P) (q_fb P) []) := by
  have hy' := hy
  obtain ⟨-, -, -, -, -, ⟨y5, z5⟩, -, -⟩ := hy
  obtain ⟨c1, c2, c3, ⟨rs, c4, c5⟩, c6⟩ := hC
  obtain ⟨d1, d2, d3, ⟨rs2, d4⟩, d5, d6⟩ := c6 rfl
  have t1 := p_tclear (Y := Y) (o := o + 20) (cap := 72) c2.1
  have f1 := p_tclear_fr (Y := Y) (M := M) (o := o + 20)
  obtain ⟨M1, hM1⟩ : ∃ z, z = s_X8_clear Y M (o + 20) := ⟨_, rfl⟩
  rw [← hM1] at t1 f1
  obtain ⟨M2, a1, a2, a3, a4⟩ := p_freeAll hy' d3.2 (d1.frame f1 (by omega)) (d2.frame f1 (by omega)) (d4.frame f1 (by omega))
  have F2 : JFr (o + 20) (o + 26) M M2 := (f1.mono (by omega) (by omega)).trans (a2.mono (by omega) (by omega))
  obtain ⟨M3, b1, b2, b3⟩ := p_search_loop hy' hm hm9 24 0 j_fuel M2 _ _ [] (by omega) (by unfold j_fuel; omega) (d1.frame F2 (by omega)) (d2.frame F2 (by omega)) a3 a4 (t1.frame a2 (by omega)) (Nat.le_refl _)
  have F3 := F2.trans b2
  refine ⟨M3, ?_, F3, ?_, b3, ?_, ⟨rs, c4, c5.frame F3 (by omega)⟩, fun _ => ⟨d1.frame F3 (by omega), d2.frame F3 (by omega), d3, ⟨rs2, d4.frame F3 (by omega)⟩, d5.frame F3 (by omega), d6.frame F3 (by omega)⟩⟩
  · unfold s_X1_searchMoves
    rw [y5]
    dsimp only [lt_]
    rw [← hM1, a1]
    dsimp only [Option.bind]
    rw [nI_0] at b1
    rw [b1]
    dsimp only
    rw [p_rows b3]
  · rw [F3 o (by omega)]; exact c1
  · rw [F3 (o + 16) (by omega)]; exact c3
end CMW

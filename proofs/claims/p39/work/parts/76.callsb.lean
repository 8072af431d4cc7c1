/-! ===== pure: calls of comparisons, moves, patches, merges ===== -/
theorem PaFr.jfr {o : Nat} {M M' : JM} (h : PaFr o M M') : JFr o (o + 13) M M' := fun a ha => h.1 a (by omega)
section RLC
variable {Y : JY} {M : JM} {md sh : Int32} {ds : Nat → List Int32} {hs : List (Nat × List Int32)} {tp : List Int32} {es : Nat → List Int32} {sm sv : Int32}
theorem k_compare (hY : YH Y) (h : ST M md sh ds hs tp es sm sv) {mk : Bool} {xs0 ys0 : List Int32} {P0 : List (Nat × Nat)} {anc0 : Nat} {mv0 : List (List Int32)} (hC : CM M 66 mk xs0 ys0 P0 anc0 mv0) {f r : Nat} (hf : f < 4) (hr : r < 4) :
    ∃ v M', s_X9_compare Y M 0 (nI f) (nI r) = some (v, M') ∧ CF [(66, 92)] [] M M' ∧ CM M' 66 true (ds f) (ds r) (q_align (ds f) (ds r) (decide (md = 1))).1 (q_align (ds f) (ds r) (decide (md = 1))).2 [] := by
  have hdoc := h.2.1 r hr
  have hdocf := h.2.1 f hf
  have hya := hY.1.2.2.2.2.2 r hr
  have hyaf := hY.1.2.2.2.2.2 f hf
  obtain ⟨M1, b1, b2, b3⟩ := p_make (o := 66) hY.2.2.2.2.2.1.2 hC hyaf.2 hya.2 (by omega) (by omega) hdocf hdoc (M 0 9)
  have e9 := h.1.1
  rw [e9] at b1 b3
  refine ⟨nI (q_align (ds f) (ds r) (decide (md = 1))).1.length, M1, ?_, CF.of b2 (by decide) (by decide), b3⟩
  unfold s_X9_compare
  rw [h_doc hY hf]
  dsimp only [Option.bind]
  rw [h_doc hY hr]
  dsimp only
  rw [hY.2.2.2.2.2.1.1, e9, b1]
section CMU
variable {xs ys : List Int32} {P : List (Nat × Nat)} {anc : Nat} {mv : List (List Int32)}
theorem h_cmp (hY : YH Y) (hC : CM M 66 true xs ys P anc mv) : s_X9_requireComparison Y M 0 = some () := by
  unfold s_X9_requireComparison s_X1_exists
  rw [hY.2.2.2.2.2.1.1, hC.1]
  rfl
theorem k_partner (hY : YH Y) (hC : CM M 66 true xs ys P anc mv) {i : Nat} (hi : i < xs.length) : s_X9_partner Y M 0 (nI i) = some (oI (lk P i)) := by
  obtain ⟨h66, ⟨y0, z0⟩, -, ⟨y2, z2⟩, -⟩ := hY.2.2.2.2.2.1
  obtain ⟨d1, d2, d3, ⟨rs2, d4⟩, d5, d6⟩ := hC.2.2.2.2 rfl
  unfold s_X9_partner
  rw [h_cmp hY hC]
  dsimp only [Option.bind]
  have e1 : s_X1_first Y M (j_rf Y 0 6) = 67 := by
    rw [h66]
    exact y0
  have e2 : s_X1_alignment Y M (j_rf Y 0 6) = 71 := by
    rw [h66]
    exact y2
  rw [e1, e2, if_neg (h_has z0 d1 hi), p_partnerOf z2 d4 hi]
theorem k_findMoves (hY : YH Y) (hC : CM M 66 true xs ys P anc mv) {mn : Nat} (h1 : 1 ≤ mn) (h9 : mn ≤ 9) :
    ∃ M', s_X9_findMoves Y M 0 (nI mn) = some (nI (q_mv xs ys mn 24 (q_fa P) (q_fb P) []).length, M') ∧ CF [(66, 92)] [] M M' ∧ CM M' 66 true xs ys P anc (q_mv xs ys mn 24 (q_fa P) (q_fb P) []) := by
  obtain ⟨M', a1, a2, a3⟩ := p_searchMoves (o := 66) hY.2.2.2.2.2.1.2 h1 h9 hC
  refine ⟨M', ?_, CF.of (a2.mono (lo' := 66) (hi' := 92) (by omega) (by omega)) (by decide) (by decide), a3⟩
  unfold s_X9_findMoves
  rw [if_neg (by
    rintro (c | c)
    · rw [show (1 : Int32) = nI 1 from rfl] at c
      exact nI_nlt h1 (by omega) c
    · exact c (by rw [show (9 : Int32) = nI 9 from rfl]; exact nI_le h9 (by omega))), h_cmp hY hC]
  dsimp only [Option.bind]
  rw [hY.2.2.2.2.2.1.1, a1]
theorem k_move (hY : YH Y) (hC : CM M 66 true xs ys P anc mv) {i j : Nat} (hi : i < mv.length) (hj : j < 3) : s_X9_move Y M 0 (nI i) (nI j) = some (t_at mv i j) := by
  have z5 := hY.2.2.2.2.2.1.2.2.2.2.2.2.1.2
  have e1 : s_X1_moved Y M (j_rf Y 0 6) = 86 := by
    rw [hY.2.2.2.2.2.1.1]
    exact hY.2.2.2.2.2.1.2.2.2.2.2.2.1.1
  unfold s_X9_move
  rw [e1]
  have e := h_prop (Y := Y) z5 (by decide) (by decide) hC.2.1 hi hj
  rw [show nI 3 = (3 : Int32) from rfl] at e
  rw [show 86 = 66 + 20 from rfl, e]
  rfl
theorem k_makePatch (hY : YH Y) (hC : CM M 66 true xs ys P anc mv) {mk : Bool} {xs0 ys0 : List Int32} {hs0 : List HK} {kp0 : List (List Int32)} (hP : PC M 127 mk xs0 ys0 hs0 kp0) {c : Nat} (hc : c ≤ 3) :
    ∃ M', s_X9_makePatch Y M 0 (nI c) = some (nI (q_hunks xs.length c (q_dl (lk P) xs.length ys.length)).length, M') ∧ CF [(127, 140)] [] M M' ∧ PC M' 127 true xs ys (q_hunks xs.length c (q_dl (lk P) xs.length ys.length)) [] := by
  obtain ⟨M', a1, a2, a3⟩ := p_patchMake (o := 127) hY.2.2.2.2.2.2.2.2 hP hY.2.2.2.2.2.1.2 (by omega) hC hc
  refine ⟨M', ?_, CF.of a2 (by decide) (by decide), a3⟩
  unfold s_X9_makePatch
  rw [if_neg (by
    rintro (q | q)
    · exact nI_pos (by omega) q
    · exact q (by rw [show (3 : Int32) = nI 3 from rfl]; exact nI_le hc (by omega))), h_cmp hY hC]
  dsimp only [Option.bind]
  rw [hY.2.2.2.2.2.1.1, hY.2.2.2.2.2.2.2.1, a1]
end CMU
section PCU
variable {xs ys : List Int32} {ph : List HK} {kp : List (List Int32)}
theorem h_pat (hY : YH Y) (hP : PC M 127 true xs ys ph kp) : s_X9_requirePatch Y M 0 = some () := by
  unfold s_X9_requirePatch s_X6_exists
  rw [hY.2.2.2.2.2.2.2.1, hP.1]
  rfl
theorem k_hunk (hY : YH Y) (hP : PC M 127 true xs ys ph kp) {i j : Nat} {k : HK} (hi : ph[i]? = some k) (hj : j < 6) : s_X9_hunk Y M 0 (nI i) (nI j) = some (((h_row k)[j]?).getD (-1)) := by
  have z2 := hY.2.2.2.2.2.2.2.2.2.2.1.2
  have e1 : s_X6_parts Y M (j_rf Y 0 8) = 132 := by
    rw [hY.2.2.2.2.2.2.2.1]
    exact hY.2.2.2.2.2.2.2.2.2.2.1.1
  have hT := (hP.2.2.2.2 rfl).2.2.2.2
  have hl : i < (ph.map h_row).length := by
    rw [List.length_map]
    exact (List.getElem?_eq_some_iff.mp hi).1
  unfold s_X9_hunk
  rw [h_pat hY hP]
  dsimp only [Option.bind]
  rw [e1]
  have e := h_prop (Y := Y) z2 (by decide) (by decide) hT hl hj
  rw [show nI 6 = (6 : Int32) from rfl] at e
  rw [show 132 = 127 + 5 from rfl, e]
  unfold t_at
  rw [List.getElem?_map, hi]
  rfl
theorem k_outcome (hY : YH Y) (hP : PC M 127 true xs ys ph kp) {i j : Nat} (hi : i < kp.length) (hj : j < 2) : s_X9_outcome Y M 0 (nI i) (nI j) = some (t_at kp i j) := by
  have z4 := hY.2.2.2.2.2.2.2.2.2.2.2.2.1.2
  have e1 : s_X6_outcomes Y M (j_rf Y 0 8) = 127 + 9 := by
    rw [hY.2.2.2.2.2.2.2.1]
    exact hY.2.2.2.2.2.2.2.2.2.2.2.2.1.1
  have hT := hP.2.2.2.1
  have h4 : kp.length ≤ 25 := by
    have := hT.2.2.1
    omega
  unfold s_X9_outcome
  rw [e1, if_neg (h_hasRow z4 (by decide) hT hi), if_neg (by
    rintro (q | q)
    · exact nI_pos (by omega) q
    · exact q (by rw [show (1 : Int32) = nI 1 from rfl]; exact nI_le (by omega) (by omega))), p_tat z4 (by decide) (by decide) hT (by omega) (by omega)]
/-- a patch without fuzz, not reversed, put on a document -/
theorem k_apply (hY : YH Y) (h : ST M md sh ds hs tp es sm sv) (hP : PC M 127 true xs ys ph kp) {r : Nat} (hr : r < 4) (hl : (q_done (ds r) xs ys ph false 0).length ≤ 24) :
    ∃ M', s_X9_apply Y M 0 (nI r) 0 0 = some (Sum.inr (nI (k_many (q_patch (ds r) xs ys ph false 0).2.2.2), M')) ∧ CF [(1, 13), (25, 48), (127, 140)] [] M M' ∧ ST M' md sh (f_up ds r (q_done (ds r) xs ys ph false 0)) (((r, ds r) :: hs).take 8) tp es sm sv ∧ PC M' 127 true xs ys ph (q_patch (ds r) xs ys ph false 0).2.2.2 := by
  have h0 := h
  obtain ⟨⟨a1, a2, a3, a4⟩, b, c, d, e, zs, f⟩ := h
  have hdoc := b r hr
  have hya := hY.1.2.2.2.2.2 r hr
  have hyP := hY.2.2.2.2.2.2.2.2
  have h127 := hY.2.2.2.2.2.2.2.1
  obtain ⟨M1, b1, b2, b3, b4, b5, b6⟩ := p_attempt (o := 127) hyP hP hya.2 hdoc (by omega) 0 (fz := 0) (by omega)
  have hpl : ph.length ≤ 25 := (hP.2.2.2.2 rfl).2.2.2.1
  have b2f := b2.jfr
  rw [show decide ((0 : Int32) ≠ 0) = false from by decide] at b3 b4 b6
  obtain ⟨D, hDn⟩ : ∃ z, z = q_done (ds r) xs ys ph false 0 := ⟨_, rfl⟩
  obtain ⟨tr, htr⟩ : ∃ z, z = (q_patch (ds r) xs ys ph false 0).2.2.2 := ⟨_, rfl⟩
  rw [← hDn] at b3 hl ⊢
  rw [← htr] at b4 b6 ⊢
  have h96 := b3.2.1
  obtain ⟨M2, r1, r2, r3⟩ := p_hsRemember hY.2.2.1.2 (d.frame b2f (by decide)) hya.2 (hdoc.frame b2f (by omega)) (by omega) hr
  obtain ⟨M3, s1, s2, s3⟩ := p_become (M := M2) hya.2 hyP.2.2.2.2.2.2 (b3.frame r2 (by decide)) (by omega) hl
  obtain ⟨M5, t1, t2, t3⟩ := p_keep (o := 127) hyP (by omega) ((b5.frame r2 (by decide)).frame s2 (by omega)) ((b4.frame r2 (by decide)).frame s2 (by omega))
  have hc1 : CF [(127, 140)] [] M M1 := CF.of b2f (by decide) (by decide)
  have hc2 : CF [(1, 13), (25, 48)] [] M1 M3 := (CF.of r2 (by decide) (by decide)).trans (CF.of (s2.mono (lo' := 1) (hi' := 13) (by omega) (by omega)) (by decide) (by decide))
  have hc3 : CF [(127, 140)] [] M3 M5 := CF.of (t2.mono (lo' := 127) (hi' := 140) (by omega) (by omega)) (by decide) (by decide)
  have hc : CF [(1, 13), (25, 48), (127, 140)] [] M M5 := ((hc1.wide (by decide) (by decide)).trans (hc2.wide (by decide) (by decide))).trans (hc3.wide (by decide) (by decide))
  refine ⟨M5, ?_, hc, ⟨⟨?_, ?_, ?_, ?_⟩, ((((b.frame b2f (by decide)).frame r2 (by decide)).set s2 s3).frame t2 (by decide)), c.cf13 hc (by decide), (r3.frame s2 (by omega)).frame t2 (by decide), e.cf49 hc (by decide), zs, f.cf53 hc (by decide)⟩, t3⟩
  · unfold s_X9_apply s_X9_changeTo
    rw [h_doc hY hr]
    dsimp only [Option.bind]
    rw [if_neg (by decide), h_pat hY hP]
    dsimp only
    rw [nI_0] at b1
    rw [h127, b1]
    dsimp only
    rw [p_size b3, if_pos (by rw [show (24 : Int32) = nI 24 from rfl]; exact nI_le hl (by omega)), hY.2.2.1.1, r1]
    dsimp only
    rw [s1]
    dsimp only
    rw [t1]
  · rw [hc.2 9 (by decide)]; exact a1
  · rw [hc.2 12 (by decide)]; exact a2
  · rw [hc.2 10 (by decide)]; exact a3
  · rw [hc.2 11 (by decide)]; exact a4
theorem k_applyN (hY : YH Y) (h : ST M md sh ds hs tp es sm sv) (hP : PC M 127 true xs ys ph kp) {r : Nat} (hr : r < 4) (hl : ¬ (q_done (ds r) xs ys ph false 0).length ≤ 24) :
    ∃ M', s_X9_apply Y M 0 (nI r) 0 0 = some (Sum.inl (4, M')) ∧ CF [(127, 140)] [] M M' ∧ ST M' md sh ds hs tp es sm sv ∧ PC M' 127 true xs ys ph kp := by
  have hdoc := h.2.1 r hr
  have hya := hY.1.2.2.2.2.2 r hr
  have hyP := hY.2.2.2.2.2.2.2.2
  have h127 := hY.2.2.2.2.2.2.2.1
  obtain ⟨M1, b1, b2, b3, b4, b5, b6⟩ := p_attempt (o := 127) hyP hP hya.2 hdoc (by omega) 0 (fz := 0) (by omega)
  rw [show decide ((0 : Int32) ≠ 0) = false from by decide] at b3
  have h96 := b3.2.1
  have hc1 : CF [(127, 140)] [] M M1 := CF.of b2.jfr (by decide) (by decide)
  refine ⟨M1, ?_, hc1, h.k hc1 (by decide) (by decide) (by decide) (by decide) (by decide) (by decide), b5⟩
  unfold s_X9_apply
  rw [h_doc hY hr]
  dsimp only [Option.bind]
  rw [if_neg (by decide), h_pat hY hP]
  dsimp only
  rw [nI_0] at b1
  rw [h127, b1]
  dsimp only
  rw [p_size b3, if_neg (by rw [show (24 : Int32) = nI 24 from rfl]; exact nI_ge (by omega) (by omega))]
end PCU
theorem k_merge (hY : YH Y) (h : ST M md sh ds hs tp es sm sv) {mk : Bool} {bs0 ls0 rs0 : List Int32} {cs0 : List CK} {cf0 : Nat → Int32} (hG : MG M 92 mk bs0 ls0 rs0 cs0 cf0) {q1 q2 q3 : Nat} (h1 : q1 < 4) (h2 : q2 < 4) (h3 : q3 < 4) :
    ∃ M', s_X9_merge Y M 0 (nI q1) (nI q2) (nI q3) = some (nI (k_cr 0 (q_mgs (ds q1) (ds q2) (ds q3) (decide (md = 1)) (decide (j_z sh ≠ 0)))).length, M') ∧ CF [(92, 127)] [] M M' ∧ MG M' 92 true (ds q1) (ds q2) (ds q3) (q_mgs (ds q1) (ds q2) (ds q3) (decide (md = 1)) (decide (j_z sh ≠ 0))) (fun _ => -1) := by
  have d1 := h.2.1 q1 h1
  have d2 := h.2.1 q2 h2
  have d3 := h.2.1 q3 h3
  have y1 := hY.1.2.2.2.2.2 q1 h1
  have y2 := hY.1.2.2.2.2.2 q2 h2
  have y3 := hY.1.2.2.2.2.2 q3 h3
  obtain ⟨M1, M', a1, a2, a3, a4, a5⟩ := p_mgMake (o := 92) hY.2.2.2.2.2.2.1.2 hG y1.2 y2.2 y3.2 (by omega) (by omega) (by omega) d1 d2 d3 md (j_z sh)
  refine ⟨M', ?_, CF.of a4 (by decide) (by decide), a5⟩
  have e9 : M1 0 9 = md := by rw [a3 0 (by omega)]; exact h.1.1
  have e12 : M1 0 12 = sh := by rw [a3 0 (by omega)]; exact h.1.2.1
  unfold s_X9_merge
  rw [h_doc hY h1]
  dsimp only [Option.bind]
  rw [h_doc hY h2]
  dsimp only
  rw [h_doc hY h3]
  dsimp only
  rw [hY.2.2.2.2.2.2.1.1, a1]
  dsimp only
  rw [e9, e12, a2]
theorem k_mergedLength (hY : YH Y) {bs ls rs : List Int32} {cs : List CK} {cf : Nat → Int32} (hG : MG M 92 true bs ls rs cs cf) : s_X9_mergedLength Y M 0 = some (nI (k_res bs ls rs cf 0 cs).length) := by
  have g := (hG.2.2.2.2 rfl).2.2.2.2.2.2
  have e1 : s_X5_outcomeLines Y M (j_rf Y 0 7) = 92 + 33 := by
    rw [hY.2.2.2.2.2.2.1.1]
    exact hY.2.2.2.2.2.2.1.2.2.2.2.2.2.2.2.1
  have e2 : s_X9_requireMerge Y M 0 = some () := by
    unfold s_X9_requireMerge s_X5_exists
    rw [hY.2.2.2.2.2.2.1.1, hG.1]
    rfl
  unfold s_X9_mergedLength
  rw [e2]
  dsimp only [Option.bind]
  rw [e1, p_size g]
end RLC

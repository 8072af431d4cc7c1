/-! ===== pure: calls of documents, modes, input ===== -/
section RLE
variable {Y : JY} {M : JM} {md sh : Int32} {ds : Nat → List Int32} {hs : List (Nat × List Int32)} {tp : List Int32} {es : Nat → List Int32} {sm sv : Int32}
/-- a document changes, and that is remembered -/
theorem st_doc {M1 M2 : JM} {r : Nat} {ys : List Int32} (h : ST M md sh ds hs tp es sm sv) (hr : r < 4) (b2 : JFr 25 48 M M1) (b3 : HS M1 25 (((r, ds r) :: hs).take 8)) (r2 : JFr (1 + 4 + 2 * r) (1 + 4 + 2 * r + 2) M1 M2) (r1 : LN M2 (1 + 4 + 2 * r) 24 ys) :
    CF [(1, 13), (25, 48)] [] M M2 ∧ ST M2 md sh (f_up ds r ys) (((r, ds r) :: hs).take 8) tp es sm sv := by
  obtain ⟨⟨a1, a2, a3, a4⟩, b, c, d, e, xs, f⟩ := h
  have hc : CF [(1, 13), (25, 48)] [] M M2 := (CF.of b2 (by decide) (by decide)).trans (CF.of (r2.mono (lo' := 1) (hi' := 13) (by omega) (by omega)) (by decide) (by decide))
  refine ⟨hc, ⟨?_, ?_, ?_, ?_⟩, (b.frame b2 (by decide)).set r2 r1, c.cf13 hc (by decide), b3.frame r2 (by omega), e.cf49 hc (by decide), xs, f.cf53 hc (by decide)⟩
  · rw [hc.2 9 (by decide)]; exact a1
  · rw [hc.2 12 (by decide)]; exact a2
  · rw [hc.2 10 (by decide)]; exact a3
  · rw [hc.2 11 (by decide)]; exact a4
theorem k_insert (hY : YH Y) (h : ST M md sh ds hs tp es sm sv) {r i w : Nat} (hr : r < 4) (hl : (ds r).length < 24) (hi : i ≤ (ds r).length) (hw : w ≤ 25) :
    ∃ M', s_X9_insert Y M 0 (nI r) (nI i) (nI w) = some (nI ((ds r).length + 1), M') ∧ CF [(1, 13), (25, 48)] [] M M' ∧ ST M' md sh (f_up ds r (l_ins (ds r) i (nI w))) (((r, ds r) :: hs).take 8) tp es sm sv := by
  have hdoc := h.2.1 r hr
  have hya := hY.1.2.2.2.2.2 r hr
  obtain ⟨M1, b1, b2, b3⟩ := p_hsRemember hY.2.2.1.2 h.2.2.2.1 hya.2 hdoc (by omega) hr
  obtain ⟨M2, r0, r2, r1⟩ := p_pushAt hya.2 (hdoc.frame b2 (by omega)) (p := i) hi hl (nI w)
  obtain ⟨c1, c2⟩ := st_doc h hr b2 b3 r2 r1
  refine ⟨M2, ?_, c1, c2⟩
  unfold s_X9_insert
  rw [h_doc hY hr]
  dsimp only [Option.bind]
  rw [h_line hw]
  dsimp only
  rw [h_room hdoc hl]
  dsimp only
  rw [p_size hdoc, if_neg (by
    rintro (c | c)
    · exact nI_pos (by omega) c
    · exact c (nI_le hi (by omega))), hY.2.2.1.1, b1]
  dsimp only
  rw [r0]
  dsimp only
  rw [p_size r1, l_ins_len hi]
theorem k_append (hY : YH Y) (h : ST M md sh ds hs tp es sm sv) {r w : Nat} (hr : r < 4) (hl : (ds r).length < 24) (hw : w ≤ 25) :
    ∃ M', s_X9_append Y M 0 (nI r) (nI w) = some (nI ((ds r).length + 1), M') ∧ CF [(1, 13), (25, 48)] [] M M' ∧ ST M' md sh (f_up ds r (ds r ++ [nI w])) (((r, ds r) :: hs).take 8) tp es sm sv := by
  have hdoc := h.2.1 r hr
  have hya := hY.1.2.2.2.2.2 r hr
  obtain ⟨M1, b1, b2, b3⟩ := p_hsRemember hY.2.2.1.2 h.2.2.2.1 hya.2 hdoc (by omega) hr
  have r1 := p_push_LN hya.2 (hdoc.frame b2 (by omega)) hl (nI w)
  have r2 := p_push_fr hya.2 (hdoc.frame b2 (by omega)) hl (nI w)
  obtain ⟨M2, hM2⟩ : ∃ z, z = s_X4_push Y M1 (1 + 4 + 2 * r) (nI w) := ⟨_, rfl⟩
  rw [← hM2] at r1 r2
  obtain ⟨c1, c2⟩ := st_doc h hr b2 b3 r2 r1
  refine ⟨M2, ?_, c1, c2⟩
  unfold s_X9_append
  rw [h_doc hY hr]
  dsimp only [Option.bind]
  rw [h_line hw]
  dsimp only
  rw [h_room hdoc hl]
  dsimp only
  rw [hY.2.2.1.1, b1]
  dsimp only [lt_]
  rw [← hM2, p_size r1, List.length_append, List.length_singleton]
theorem k_delete (hY : YH Y) (h : ST M md sh ds hs tp es sm sv) {r i : Nat} (hr : r < 4) (hi : i < (ds r).length) :
    ∃ v M', s_X9_delete Y M 0 (nI r) (nI i) = some (v, M') ∧ CF [(1, 13), (25, 48)] [] M M' ∧ ST M' md sh (f_up ds r (l_del (ds r) i)) (((r, ds r) :: hs).take 8) tp es sm sv := by
  have hdoc := h.2.1 r hr
  have hya := hY.1.2.2.2.2.2 r hr
  obtain ⟨M1, b1, b2, b3⟩ := p_hsRemember hY.2.2.1.2 h.2.2.2.1 hya.2 hdoc (by omega) hr
  obtain ⟨M2, r0, r2, r1⟩ := p_removeAt hya.2 (hdoc.frame b2 (by omega)) hi
  obtain ⟨c1, c2⟩ := st_doc h hr b2 b3 r2 r1
  refine ⟨(ds r)[i], M2, ?_, c1, c2⟩
  unfold s_X9_delete
  rw [h_doc hY hr]
  dsimp only [Option.bind]
  rw [if_neg (h_has hya.2 hdoc hi), hY.2.2.1.1, b1]
  dsimp only
  rw [r0]
theorem k_length (hY : YH Y) (h : SH M 1 4 ds) {r : Nat} (hr : r < 4) : s_X9_length Y M 0 (nI r) = some (nI (ds r).length) := by
  unfold s_X9_length
  rw [h_doc hY hr]
  dsimp only [Option.bind]
  rw [p_size (h r hr)]
theorem k_line (hY : YH Y) (h : SH M 1 4 ds) {r i : Nat} (hr : r < 4) (hi : i < (ds r).length) : s_X9_line Y M 0 (nI r) (nI i) = some (((ds r)[i]?).getD (-1)) := by
  have hdoc := h r hr
  have h24 := hdoc.2.1
  have hya := hY.1.2.2.2.2.2 r hr
  unfold s_X9_line
  rw [h_doc hY hr]
  dsimp only [Option.bind]
  rw [if_neg (h_has hya.2 hdoc hi), p_at hya.2 hdoc, l_at_nI (by omega)]
theorem p_become2 {a b : Nat} {xs ys : List Int32} (hya : LnAt Y a 24) (ha : LN M a 24 xs) (hyb : LnAt Y b 24) (hb : LN M b 24 ys) (hd : b + 2 ≤ a ∨ a + 2 ≤ b ∨ a = b) : ∃ M', s_X4_become Y M a b = some M' ∧ JFr a (a + 2) M M' ∧ LN M' a 24 ys := by
  by_cases e : a = b
  · subst e
    exact ⟨M, p_become_self hb, JFr.refl, hb⟩
  · exact p_become hya hyb hb (by omega) hb.2.1
theorem k_copy (hY : YH Y) (h : ST M md sh ds hs tp es sm sv) {f r : Nat} (hf : f < 4) (hr : r < 4) :
    ∃ v M', s_X9_copy Y M 0 (nI f) (nI r) = some (v, M') ∧ CF [(1, 13), (25, 48)] [] M M' ∧ ST M' md sh (f_up ds r (ds f)) (((r, ds r) :: hs).take 8) tp es sm sv := by
  have hdoc := h.2.1 r hr
  have hdocf := h.2.1 f hf
  have hya := hY.1.2.2.2.2.2 r hr
  have hyaf := hY.1.2.2.2.2.2 f hf
  obtain ⟨M1, b1, b2, b3⟩ := p_hsRemember hY.2.2.1.2 h.2.2.2.1 hya.2 hdoc (by omega) hr
  obtain ⟨M2, r0, r2, r1⟩ := p_become2 hya.2 (hdoc.frame b2 (by omega)) hyaf.2 (hdocf.frame b2 (by omega)) (by omega)
  obtain ⟨c1, c2⟩ := st_doc h hr b2 b3 r2 r1
  refine ⟨nI (ds f).length, M2, ?_, c1, c2⟩
  unfold s_X9_copy s_X9_changeTo
  rw [h_doc hY hf]
  dsimp only [Option.bind]
  rw [h_doc hY hr]
  dsimp only
  rw [hY.2.2.1.1, b1]
  dsimp only
  rw [r0]
  dsimp only
  rw [p_size r1]
theorem k_feed (hY : YH Y) (h : ST M md sh ds hs tp es sm sv) (hl : tp.length < 50) (v : Int32) :
    ∃ u M', s_X9_feed Y M 0 v = some (u, M') ∧ CF [(48, 53)] [] M M' ∧ ST M' md sh ds hs (tp ++ [v]) es sm sv := by
  obtain ⟨⟨a1, a2, a3, a4⟩, b, c, d, e, xs, f⟩ := h
  obtain ⟨y3, ⟨y30, z30⟩, -⟩ := hY.2.2.2.1
  have r1 := p_push_LN z30 e hl v
  have r2 := p_push_fr z30 e hl v
  have hc : CF [(48, 53)] [] M (s_X4_push Y M (48 + 1) v) := CF.of (r2.mono (lo' := 48) (hi' := 53) (by omega) (by omega)) (by decide) (by decide)
  refine ⟨nI (tp ++ [v]).length, s_X4_push Y M (48 + 1) v, ?_, hc, ⟨?_, ?_, ?_, ?_⟩, b.cf1 hc (by decide), c.cf13 hc (by decide), d.cf hc (by decide), r1, xs, f.cf53 hc (by decide)⟩
  · unfold s_X9_feed s_X3_isFull s_X3_take
    rw [y3, y30, p_isFull z30 e, if_pos hl, if_pos rfl]
    dsimp only [lt_]
    rw [p_size r1]
  · rw [hc.2 9 (by decide)]; exact a1
  · rw [hc.2 12 (by decide)]; exact a2
  · rw [hc.2 10 (by decide)]; exact a3
  · rw [hc.2 11 (by decide)]; exact a4
theorem k_setMode (h : ST M md sh ds hs tp es sm sv) {v : Int32} (hv : v = 0 ∨ v = 1) : ∃ u, s_X9_setMode Y M 0 v = some (u, j_up M 0 9 v) ∧ CF [] [9] M (j_up M 0 9 v) ∧ ST (j_up M 0 9 v) v sh ds hs tp es sm sv := by
  obtain ⟨⟨a1, a2, a3, a4⟩, b, c, d, e, xs, f⟩ := h
  have hc : CF [] [9] M (j_up M 0 9 v) := CF.root (by decide)
  refine ⟨M 0 9, ?_, hc, ⟨j_up_s, ?_, ?_, ?_⟩, b.cf1 hc (by decide), c.cf13 hc (by decide), d.cf hc (by decide), e.cf49 hc (by decide), xs, f.cf53 hc (by decide)⟩
  · unfold s_X9_setMode
    rw [if_pos hv]
    rfl
  · rw [hc.2 12 (by decide)]; exact a2
  · rw [hc.2 10 (by decide)]; exact a3
  · rw [hc.2 11 (by decide)]; exact a4
theorem k_setShrinking (h : ST M md sh ds hs tp es sm sv) {v : Int32} (hv : v = 0 ∨ v = 1) : ∃ u, s_X9_setShrinking Y M 0 v = some (u, j_up M 0 12 v) ∧ CF [] [12] M (j_up M 0 12 v) ∧ ST (j_up M 0 12 v) md v ds hs tp es sm sv := by
  obtain ⟨⟨a1, a2, a3, a4⟩, b, c, d, e, xs, f⟩ := h
  have hc : CF [] [12] M (j_up M 0 12 v) := CF.root (by decide)
  refine ⟨j_z (M 0 12), ?_, hc, ⟨?_, j_up_s, ?_, ?_⟩, b.cf1 hc (by decide), c.cf13 hc (by decide), d.cf hc (by decide), e.cf49 hc (by decide), xs, f.cf53 hc (by decide)⟩
  · unfold s_X9_setShrinking
    dsimp only [lt_]
    rw [if_pos hv]
  · rw [hc.2 9 (by decide)]; exact a1
  · rw [hc.2 10 (by decide)]; exact a3
  · rw [hc.2 11 (by decide)]; exact a4
theorem k_undo (hY : YH Y) {r : Nat} {xs : List Int32} (h : ST M md sh ds ((r, xs) :: hs) tp es sm sv) (hr : r < 4) :
    ∃ M', s_X9_undo Y M 0 = some (nI r, M') ∧ CF [(1, 13), (25, 48)] [] M M' ∧ ST M' md sh (f_up ds r xs) hs tp es sm sv := by
  obtain ⟨⟨a1, a2, a3, a4⟩, b, c, d, e, zs, f⟩ := h
  obtain ⟨M', M1, t1, t2, t3, t4, t5⟩ := p_hsTakeBack hY.2.2.1.2 d hr hY.1.2 b (by omega)
  have hc : CF [(1, 13), (25, 48)] [] M M' := (CF.of t2 (by decide) (by decide)).trans (CF.of (t3.mono (lo' := 1) (hi' := 13) (by omega) (by omega)) (by decide) (by decide))
  refine ⟨M', ?_, hc, ⟨?_, ?_, ?_, ?_⟩, t5, c.cf13 hc (by decide), t4, e.cf49 hc (by decide), zs, f.cf53 hc (by decide)⟩
  · unfold s_X9_undo
    rw [hY.2.2.1.1, hY.1.1, p_hsEmpty d, if_neg (List.cons_ne_nil _ _), if_pos rfl, t1]
    rfl
  · rw [hc.2 9 (by decide)]; exact a1
  · rw [hc.2 12 (by decide)]; exact a2
  · rw [hc.2 10 (by decide)]; exact a3
  · rw [hc.2 11 (by decide)]; exact a4
theorem k_save (hY : YH Y) (h : ST M md sh ds hs tp es sm sv) :
    ∃ M', s_X9_save Y M 0 = some (nI (f_sum ds 0 4), M') ∧ CF [(13, 25)] [10, 11] M M' ∧ ST M' md sh ds hs tp ds md 1 := by
  obtain ⟨⟨a1, a2, a3, a4⟩, b, c, d, e, zs, f⟩ := h
  obtain ⟨M1, t1, t2, t3⟩ := p_shbecome hY.2.1.2 c hY.1.2 b (by omega)
  have e9 : M1 0 9 = md := by rw [t2 0 (by omega)]; exact a1
  have hc1 : CF [(13, 25)] [10, 11] M M1 := CF.of (t2.mono (lo' := 13) (hi' := 25) (by omega) (by omega)) (by decide) (by decide)
  have hc2 : CF [(13, 25)] [10, 11] M1 (j_up M1 0 10 (M1 0 9)) := CF.root (by decide)
  have hc3 : CF [(13, 25)] [10, 11] (j_up M1 0 10 (M1 0 9)) (j_up (j_up M1 0 10 (M1 0 9)) 0 11 1) := CF.root (by decide)
  have hc := (hc1.trans hc2).trans hc3
  have f1 : JFr 0 1 M1 (j_up (j_up M1 0 10 (M1 0 9)) 0 11 1) := JFr.up.trans JFr.up
  have t4 := t3.frame f1 (by decide)
  refine ⟨j_up (j_up M1 0 10 (M1 0 9)) 0 11 1, ?_, hc, ⟨?_, ?_, ?_, j_up_s⟩, b.cf1 hc (by decide), t4, d.cf hc (by decide), e.cf49 hc (by decide), zs, f.cf53 hc (by decide)⟩
  · unfold s_X9_save
    rw [hY.2.1.1, hY.1.1, t1]
    dsimp only [Option.bind, lt_]
    rw [p_allLines hY.2.1.2 t4]
  · rw [hc.2 9 (by decide)]; exact a1
  · rw [hc.2 12 (by decide)]; exact a2
  · rw [j_up_k (by decide), j_up_s]; exact e9
theorem k_restore (hY : YH Y) (h : ST M md sh ds hs tp es sm 1) :
    ∃ M', s_X9_restore Y M 0 = some (nI (f_sum es 0 4), M') ∧ CF [(1, 13), (25, 48)] [9] M M' ∧ ST M' sm sh es [] tp es sm 1 := by
  obtain ⟨⟨a1, a2, a3, a4⟩, b, c, d, e, zs, f⟩ := h
  obtain ⟨M1, t1, t2, t3⟩ := p_shbecome hY.1.2 b hY.2.1.2 c (by omega)
  have e10 : M1 0 10 = sm := by rw [t2 0 (by omega)]; exact a3
  have hc1 : CF [(1, 13), (25, 48)] [9] M M1 := CF.of (t2.mono (lo' := 1) (hi' := 13) (by omega) (by omega)) (by decide) (by decide)
  obtain ⟨M2, hM2⟩ : ∃ z, z = j_up M1 0 9 (M1 0 10) := ⟨_, rfl⟩
  have hc2 : CF [(1, 13), (25, 48)] [9] M1 M2 := by rw [hM2]; exact CF.root (by decide)
  have f1 : JFr 0 1 M1 M2 := by rw [hM2]; exact JFr.up
  have d2 := (d.frame t2 (by decide)).frame f1 (by decide)
  obtain ⟨g1, g2⟩ := p_hsForget (Y := Y) d2
  obtain ⟨M3, hM3⟩ : ∃ z, z = s_X2_forget Y M2 25 := ⟨_, rfl⟩
  rw [← hM3] at g1 g2
  have hc3 : CF [(1, 13), (25, 48)] [9] M2 M3 := CF.of g2 (by decide) (by decide)
  have hc := (hc1.trans hc2).trans hc3
  have t4 := (t3.frame f1 (by decide)).frame g2 (by decide)
  refine ⟨M3, ?_, hc, ⟨?_, ?_, ?_, ?_⟩, t4, c.cf13 hc (by decide), g1, e.cf49 hc (by decide), zs, f.cf53 hc (by decide)⟩
  · unfold s_X9_restore
    rw [if_neg (by rw [a4]; decide), hY.1.1, hY.2.1.1, t1]
    dsimp only [Option.bind, lt_]
    rw [hY.2.2.1.1, ← hM2, ← hM3, p_allLines hY.1.2 t4]
  · rw [g2 0 (by omega), hM2, j_up_s]; exact e10
  · rw [hc.2 12 (by decide)]; exact a2
  · rw [hc.2 10 (by decide)]; exact a3
  · rw [hc.2 11 (by decide)]; exact a4
/-- the input is read as a document -/
theorem k_read (hY : YH Y) (h : ST M md sh ds hs tp es sm sv) {r : Nat} (hr : r < 4) (hno : (rd tp 0 (-1) [] 0 []).1 = none) (h24 : (rd tp 0 (-1) [] 0 []).2.length ≤ 24) :
    ∃ M', s_X9_readDocument Y M 0 (nI r) = some (nI (rd tp 0 (-1) [] 0 []).2.length, M') ∧ CF [(1, 13), (25, 48), (48, 53), (53, 55)] [] M M' ∧ ST M' md sh (f_up ds r (rd tp 0 (-1) [] 0 []).2) (((r, ds r) :: hs).take 8) [] es sm sv := by
  have h0 := h
  obtain ⟨⟨a1, a2, a3, a4⟩, b, c, d, e, zs, f⟩ := h
  obtain ⟨y3, yin⟩ := hY.2.2.2.1
  have yin' := yin
  obtain ⟨⟨y30, z30⟩, ⟨y31, z31⟩⟩ := yin
  obtain ⟨y4, z4⟩ := hY.2.2.2.2.1
  obtain ⟨U, hU⟩ : ∃ z, z = (rd tp 0 (-1) [] 0 []).2 := ⟨_, rfl⟩
  have he := p_errorPosition yin' e
  obtain ⟨M1, x1, x2, x3, -⟩ := p_expandInto yin' z4 (by omega) e hno
  have x3 := x3 h24
  rw [if_pos h24] at x1
  rw [← hU] at x3 h24 ⊢
  have hcx : CF [(1, 13), (25, 48), (48, 53), (53, 55)] [] M M1 := ⟨fun a ha hp => x2 a (by
    have p1 := hp (48, 53) (by decide)
    have p2 := hp (53, 55) (by decide)
    dsimp only at p1 p2
    omega), fun k _ => congrFun (x2 0 (by omega)) k⟩
  have t1 := p_clear_LN (Y := Y) (M := M1) (o := 48 + 1) (cap := 50)
  have t2 := p_clear_fr (Y := Y) (M := M1) (o := 48 + 1)
  obtain ⟨M2, hM2⟩ : ∃ z, z = s_X4_clear Y M1 (48 + 1) := ⟨_, rfl⟩
  rw [← hM2] at t1 t2
  have hc2 : CF [(1, 13), (25, 48), (48, 53), (53, 55)] [] M1 M2 := CF.of (t2.mono (lo' := 48) (hi' := 53) (by omega) (by omega)) (by decide) (by decide)
  have hcc := hcx.trans hc2
  have sh2 : SH M2 1 4 ds := fun i hi => by
    have g := b i hi
    have q1 : M2 (1 + 4 + 2 * i) = M (1 + 4 + 2 * i) := by rw [t2 _ (by omega), x2 _ (by omega)]
    have q2 : M2 (1 + 4 + 2 * i + 1) = M (1 + 4 + 2 * i + 1) := by rw [t2 _ (by omega), x2 _ (by omega)]
    exact ⟨by rw [q1]; exact g.1, g.2.1, fun j hj => by rw [q2]; exact g.2.2 j hj⟩
  have hsx : CF [(48, 53), (53, 55)] [] M M2 := ⟨fun a ha hp => by
    have p1 := hp (48, 53) (by decide)
    have p2 := hp (53, 55) (by decide)
    dsimp only at p1 p2
    rw [t2 a (by omega), x2 a (by omega)], fun k _ => by rw [t2 0 (by omega), x2 0 (by omega)]⟩
  have hd2 := d.cf hsx (by decide)
  have hdoc := sh2 r hr
  have hya := hY.1.2.2.2.2.2 r hr
  have w4 := x3.frame t2 (by decide)
  obtain ⟨M3, b1, b2, b3⟩ := p_hsRemember hY.2.2.1.2 hd2 hya.2 hdoc (by omega) hr
  obtain ⟨M4, r0, r2, r1⟩ := p_become hya.2 z4 (w4.frame b2 (by omega)) (by omega) h24
  have hc3 : CF [(1, 13), (25, 48)] [] M2 M4 := (CF.of b2 (by decide) (by decide)).trans (CF.of (r2.mono (lo' := 1) (hi' := 13) (by omega) (by omega)) (by decide) (by decide))
  have hce := c.cf13 hsx (by decide)
  have hct : CF [(1, 13), (25, 48), (48, 53), (53, 55)] [] M M4 := hcc.trans (hc3.wide (by decide) (by decide))
  refine ⟨M4, ?_, hct, ⟨?_, ?_, ?_, ?_⟩, (sh2.frame b2 (by decide)).set r2 r1, hce.cf13 hc3 (by decide), b3.frame r2 (by omega), t1.cf49 hc3 (by decide), U, w4.cf53 hc3 (by decide)⟩
  · unfold s_X9_readDocument s_X9_changeTo s_X3_discard
    rw [y3, y4, y30, he, hno]
    dsimp only [Option.bind]
    rw [if_pos (show oI none = (-1 : Int32) from rfl), x1]
    dsimp only
    rw [if_neg (by decide)]
    dsimp only [lt_]
    rw [← hM2, h_doc hY hr]
    dsimp only
    rw [if_pos (show oI none = (-1 : Int32) from rfl), if_neg (by decide), hY.2.2.1.1, b1]
    dsimp only
    rw [r0]
    dsimp only
    rw [p_size r1]
  · rw [hct.2 9 (by decide)]; exact a1
  · rw [hct.2 12 (by decide)]; exact a2
  · rw [hct.2 10 (by decide)]; exact a3
  · rw [hct.2 11 (by decide)]; exact a4
theorem k_readN (hY : YH Y) (h : ST M md sh ds hs tp es sm sv) {r e : Nat} (hr : r < 4) (he : (rd tp 0 (-1) [] 0 []).1 = some e) :
    ∃ M', s_X9_readDocument Y M 0 (nI r) = some ((-100 : Int32) - nI e, M') ∧ CF [(48, 53)] [] M M' ∧ ST M' md sh ds hs [] es sm sv := by
  obtain ⟨⟨a1, a2, a3, a4⟩, b, c, d, e9, zs, f⟩ := h
  obtain ⟨y3, yin⟩ := hY.2.2.2.1
  have yin' := yin
  obtain ⟨⟨y30, z30⟩, ⟨y31, z31⟩⟩ := yin
  have hb := rd_bound tp 0 (-1) [] 0 [] e he
  have h50 := e9.2.1
  have hep := p_errorPosition yin' e9
  have t1 := p_clear_LN (Y := Y) (M := M) (o := 48 + 1) (cap := 50)
  have t2 := p_clear_fr (Y := Y) (M := M) (o := 48 + 1)
  obtain ⟨M2, hM2⟩ : ∃ z, z = s_X4_clear Y M (48 + 1) := ⟨_, rfl⟩
  rw [← hM2] at t1 t2
  have hc : CF [(48, 53)] [] M M2 := CF.of (t2.mono (lo' := 48) (hi' := 53) (by omega) (by omega)) (by decide) (by decide)
  have hne : ¬ oI (some e) = (-1 : Int32) := nI_m1 (by omega)
  refine ⟨M2, ?_, hc, ⟨?_, ?_, ?_, ?_⟩, b.cf1 hc (by decide), c.cf13 hc (by decide), d.cf hc (by decide), t1, zs, f.cf53 hc (by decide)⟩
  · unfold s_X9_readDocument s_X3_discard
    rw [y3, y30, hep, he]
    dsimp only [Option.bind]
    rw [if_neg hne]
    dsimp only [lt_]
    rw [← hM2, h_doc hY hr]
    dsimp only
    rw [if_neg hne]
    rfl
  · rw [hc.2 9 (by decide)]; exact a1
  · rw [hc.2 12 (by decide)]; exact a2
  · rw [hc.2 10 (by decide)]; exact a3
  · rw [hc.2 11 (by decide)]; exact a4
end RLE

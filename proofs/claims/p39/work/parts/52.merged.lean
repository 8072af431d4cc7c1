/-! ===== pure: merges; regions; the class ===== -/
section MGR
variable {Y : JY} {M : JM} {o : Nat} {bs ls rs : List Int32} {ts : List (List Int32)} {R : List Int32} {i0 i1 j0 j1 k0 k1 : Nat}
abbrev k_F (c : CK) : List Int32 := k_r8 c (-1)
theorem p_setKind (hy : MgAt Y o) {r : List Int32} (h : TB M (o + 29) 800 8 (ts ++ [r])) (v : Int32) : ∃ M', s_X5_setKind Y M o (nI ts.length) v = M' ∧ JFr (o + 29) (o + 31) M M' ∧ TB M' (o + 29) 800 8 (ts ++ [r.set 0 v]) := by
  obtain ⟨-, -, -, -, -, ⟨y5, z5⟩, -⟩ := hy
  obtain ⟨M', a1, a2, a3⟩ := p_tput1 z5 (by decide) h (show 0 < 8 by decide) v
  refine ⟨M', ?_, a2, a3⟩
  unfold s_X5_setKind
  rw [y5]
  exact a1
theorem p_shTail (hy : MgAt Y o) (h : TB M (o + 29) 800 8 (ts ++ [k_F (4, i0, i1, j0, j1, k0, k1)])) (hl : ts.length ≤ 98) (hR : LN M (o + 31) 100 R) (hRl : R.length < 100) {t : Nat} (hj : t ≤ j1 - j0) (hk : t ≤ k1 - k0) (hb : i1 < 100 ∧ j1 < 100 ∧ k1 < 100) :
    ∃ M', (lt_ (s_X4_push Y M (j_rf Y o 6) (nI ts.length)) fun xx22 => if nI t ≤ 0 then (some xx22) else (lt_ (s_X8_put Y xx22 (j_rf Y o 5) (nI ts.length) (4 : Int32) (nI j1 - nI t)) fun xx24 => lt_ (s_X8_put Y xx24 (j_rf Y o 5) (nI ts.length) (6 : Int32) (nI k1 - nI t)) fun xx25 => (s_X5_addPart Y xx25 o (nI i1) (nI i1) (nI j1 - nI t) (nI j1) (nI k1 - nI t) (nI k1)).bind fun xx26 => lt_ (s_X5_setKind Y xx26.2 o xx26.1 (3 : Int32)) fun xx27 => some xx27)) = some M' ∧
      JFr (o + 29) (o + 33) M M' ∧ TB M' (o + 29) 800 8 (ts ++ ((4, i0, i1, j0, j1 - t, k0, k1 - t) :: (if t = 0 then [] else [(3, i1, i1, j1 - t, j1, k1 - t, k1)]) : List CK).map k_F) ∧ LN M' (o + 31) 100 (R ++ [nI ts.length]) := by
  have hy' := hy
  obtain ⟨-, -, -, -, -, ⟨y5, z5⟩, ⟨y6, z6⟩, -⟩ := hy
  have r1 := p_push_LN z6 hR hRl (nI ts.length)
  have r2 := p_push_fr z6 hR hRl (nI ts.length)
  rw [y5, y6]
  dsimp only [lt_]
  obtain ⟨M1, hM1⟩ : ∃ z, z = s_X4_push Y M (o + 31) (nI ts.length) := ⟨_, rfl⟩
  rw [← hM1] at r1 r2 ⊢
  have h1 := h.frame r2 (by omega)
  by_cases q : t = 0
  · subst q
    refine ⟨M1, ?_, r2.mono (by omega) (by omega), h1, r1⟩
    rw [if_pos (by decide)]
  · rw [if_neg (nI_nle (by omega) (by omega)), nI_sb (by omega), nI_sb (by omega)]
    obtain ⟨N1, b1, b2, b3⟩ := p_tput1 z5 (by decide) h1 (show 4 < 8 by decide) (nI (j1 - t))
    obtain ⟨N2, c1, c2, c3⟩ := p_tput1 z5 (by decide) b3 (show 6 < 8 by decide) (nI (k1 - t))
    rw [show nI 4 = (4 : Int32) from rfl] at b1
    rw [show nI 6 = (6 : Int32) from rfl] at c1
    rw [b1, c1]
    obtain ⟨N3, d1, d2, d3⟩ := p_mgAddPart hy' (i0 := i1) (i1 := i1) (j0 := j1 - t) (j1 := j1) (k0 := k1 - t) (k1 := k1) c3 (by rw [List.length_append, List.length_singleton]; omega) (by omega) (by omega)
    rw [d1]
    dsimp only [Option.bind]
    obtain ⟨N4, e1, e2, e3⟩ := p_setKind hy' d3 (3 : Int32)
    rw [e1]
    refine ⟨N4, rfl, (r2.mono (by omega) (by omega)).trans (((b2.trans c2).trans (d2.trans e2)).mono (by omega) (by omega)), ?_, r1.frame ((b2.trans c2).trans (d2.trans e2)) (by omega)⟩
    rw [if_neg q]
    rw [List.append_assoc] at e3
    exact e3
theorem k_cr_cf {h t r : Nat} : k_cr r (q_cf h t i0 i1 j0 j1 k0 k1) = [if h = 0 then r else r + 1] := by
  unfold q_cf
  by_cases q1 : h = 0
  · rw [if_pos q1, if_pos q1]
    by_cases q2 : t = 0
    · rw [if_pos q2]
      rfl
    · rw [if_neg q2]
      rfl
  · rw [if_neg q1, if_neg q1]
    by_cases q2 : t = 0
    · rw [if_pos q2]
      rfl
    · rw [if_neg q2]
      rfl
theorem p_shrink (hy : MgAt Y o) (h2 : LN M (o + 3) 24 ls) (h3 : LN M (o + 5) 24 rs) (h : TB M (o + 29) 800 8 (ts ++ [k_F (4, i0, i1, j0, j1, k0, k1)])) (hl : ts.length ≤ 97) (hR : LN M (o + 31) 100 R) (hRl : R.length < 100)
    (hi : i0 ≤ i1 ∧ i1 ≤ 24) (hj : j0 ≤ j1 ∧ j1 ≤ ls.length) (hk : k0 ≤ k1 ∧ k1 ≤ rs.length) (hne : ¬ l_seg ls j0 j1 = l_seg rs k0 k1) :
    ∃ M', s_X5_shrink Y M o (nI ts.length) = some M' ∧ JFr (o + 29) (o + 33) M M' ∧ TB M' (o + 29) 800 8 (ts ++ (q_conf ls rs true i0 i1 j0 j1 k0 k1).map k_F) ∧ LN M' (o + 31) 100 (R ++ (k_cr ts.length (q_conf ls rs true i0 i1 j0 j1 k0 k1)).map nI) := by
  have hy' := hy
  have e2 := h2.2.1
  have e3 := h3.2.1
  obtain ⟨-, -, -, -, -, ⟨y5, z5⟩, ⟨y6, z6⟩, -⟩ := hy
  have g : ∀ j, j < 8 → s_X8_at Y M (o + 29) (nI ts.length) (nI j) = ((k_F (4, i0, i1, j0, j1, k0, k1))[j]?).getD (-1) := fun j hj => p_tat1 z5 (by decide) (by decide) h hj
  have g1 : s_X8_at Y M (o + 29) (nI ts.length) (1 : Int32) = nI i0 := g 1 (by decide)
  have g2 : s_X8_at Y M (o + 29) (nI ts.length) (2 : Int32) = nI i1 := g 2 (by decide)
  have g3 : s_X8_at Y M (o + 29) (nI ts.length) (3 : Int32) = nI j0 := g 3 (by decide)
  have g4 : s_X8_at Y M (o + 29) (nI ts.length) (4 : Int32) = nI j1 := g 4 (by decide)
  have g5 : s_X8_at Y M (o + 29) (nI ts.length) (5 : Int32) = nI k0 := g 5 (by decide)
  have g6 : s_X8_at Y M (o + 29) (nI ts.length) (6 : Int32) = nI k1 := g 6 (by decide)
  obtain ⟨hd, hhd⟩ : ∃ z, z = q_hd ls rs (min (j1 - j0) (k1 - k0)) j0 k0 := ⟨_, rfl⟩
  have hd1 := q_hd_le (ls := ls) (rs := rs) (min (j1 - j0) (k1 - k0)) j0 k0
  rw [← hhd] at hd1
  obtain ⟨tl, htl⟩ : ∃ z, z = q_tl ls rs (min (j1 - (j0 + hd)) (k1 - (k0 + hd))) j1 k1 := ⟨_, rfl⟩
  have tl1 := q_tl_le (ls := ls) (rs := rs) (min (j1 - (j0 + hd)) (k1 - (k0 + hd))) j1 k1
  rw [← htl] at tl1
  have hcf : q_conf ls rs true i0 i1 j0 j1 k0 k1 = q_cf hd tl i0 i1 j0 j1 k0 k1 := by
    unfold q_conf q_head q_tail
    rw [if_pos rfl, if_pos rfl, ← hhd, ← htl]
  rw [hcf, k_cr_cf]
  unfold s_X5_shrink
  rw [y5, g1, g2, g3, g4, g5, g6]
  dsimp only [lt_]
  rw [p_commonBegin hy' h2 h3 hj hk, ← hhd]
  dsimp only [Option.bind]
  rw [nI_add, nI_add, p_commonEnd hy' h2 h3 (by omega) (by omega), ← htl]
  dsimp only
  by_cases q : hd = 0
  · subst q
    rw [if_pos (by decide)]
    dsimp only
    obtain ⟨M', a1, a2, a3, a4⟩ := p_shTail hy' h (by omega) hR hRl (t := tl) (by omega) (by omega) (by omega)
    dsimp only [lt_, Option.bind] at a1
    rw [y5] at a1
    exact ⟨M', a1, a2, a3, a4⟩
  · rw [if_neg (nI_nle (by omega) (by omega)), if_neg q]
    obtain ⟨N1, b1, b2, b3⟩ := p_setKind hy' h (3 : Int32)
    obtain ⟨N2, c1, c2, c3⟩ := p_tput1 z5 (by decide) b3 (show 2 < 8 by decide) (nI i0)
    obtain ⟨N3, d1, d2, d3⟩ := p_tput1 z5 (by decide) c3 (show 4 < 8 by decide) (nI (j0 + hd))
    obtain ⟨N4, f1, f2, f3⟩ := p_tput1 z5 (by decide) d3 (show 6 < 8 by decide) (nI (k0 + hd))
    rw [show nI 2 = (2 : Int32) from rfl] at c1
    rw [show nI 4 = (4 : Int32) from rfl] at d1
    rw [show nI 6 = (6 : Int32) from rfl] at f1
    rw [b1, c1, d1, f1]
    have f4 : TB N4 (o + 29) 800 8 (ts ++ [k_F (3, i0, i0, j0, j0 + hd, k0, k0 + hd)]) := f3
    have hnn : ¬ (i0 = i1 ∧ j0 + hd = j1 ∧ k0 + hd = k1) := by
      rintro ⟨-, c2, c3⟩
      apply hne
      rw [l_seg_eq hj.2 hk.2 (by omega) hk.1]
      intro t ht
      exact q_hd_eq (min (j1 - j0) (k1 - k0)) j0 k0 (by omega) t (by omega)
    obtain ⟨N5, p1, p2, p3⟩ := p_mgAddPart hy' (i0 := i0) (i1 := i1) (j0 := j0 + hd) (j1 := j1) (k0 := k0 + hd) (k1 := k1) f4 (by rw [List.length_append, List.length_singleton]; omega) hnn (by omega)
    rw [p1]
    dsimp only
    obtain ⟨N6, r1, r2, r3⟩ := p_setKind hy' p3 (4 : Int32)
    rw [r1]
    have F : JFr (o + 29) (o + 31) M N6 := ((b2.trans c2).trans (d2.trans f2)).trans (p2.trans r2)
    have r4 : TB N6 (o + 29) 800 8 ((ts ++ [k_F (3, i0, i0, j0, j0 + hd, k0, k0 + hd)]) ++ [k_F (4, i0, i1, j0 + hd, j1, k0 + hd, k1)]) := r3
    obtain ⟨M', a1, a2, a3, a4⟩ := p_shTail hy' r4 (by rw [List.length_append, List.length_singleton]; omega) (hR.frame F (by omega)) hRl (t := tl) (by omega) (by omega) (by omega)
    dsimp only [lt_, Option.bind] at a1
    rw [y5] at a1
    refine ⟨M', a1, (F.mono (by omega) (by omega)).trans a2, ?_, ?_⟩
    · unfold q_cf
      rw [if_neg q, List.map_append]
      rw [List.append_assoc] at a3
      exact a3
    · rw [List.length_append, List.length_singleton] at a4
      exact a4
theorem q_kind_le {v : Nat} (h : q_kind bs ls rs i0 i1 j0 j1 k0 k1 = v) : v < 5 := by
  rw [← h]
  unfold q_kind
  split
  · decide
  · split
    · decide
    · split <;> decide
theorem p_region (hy : MgAt Y o) (h1 : LN M (o + 1) 24 bs) (h2 : LN M (o + 3) 24 ls) (h3 : LN M (o + 5) 24 rs) (h : TB M (o + 29) 800 8 ts) (hl : ts.length ≤ 97) (hR : LN M (o + 31) 100 R) (hRl : R.length < 100)
    (hi : i0 ≤ i1 ∧ i1 ≤ bs.length) (hj : j0 ≤ j1 ∧ j1 ≤ ls.length) (hk : k0 ≤ k1 ∧ k1 ≤ rs.length) (sh : Int32) :
    ∃ r M1 M', s_X5_addPart Y M o (nI i0) (nI i1) (nI j0) (nI j1) (nI k0) (nI k1) = some (r, M1) ∧ s_X5_addRegion Y M1 o r sh = some M' ∧ JFr (o + 29) (o + 33) M M' ∧
      TB M' (o + 29) 800 8 (ts ++ (q_reg bs ls rs (decide (sh ≠ 0)) i0 i1 j0 j1 k0 k1).map k_F) ∧ LN M' (o + 31) 100 (R ++ (k_cr ts.length (q_reg bs ls rs (decide (sh ≠ 0)) i0 i1 j0 j1 k0 k1)).map nI) := by
  have hy' := hy
  have e1 := h1.2.1
  have e2 := h2.2.1
  have e3 := h3.2.1
  obtain ⟨-, -, -, -, -, ⟨y5, z5⟩, ⟨y6, z6⟩, -⟩ := hy
  unfold q_reg
  by_cases q : i0 = i1 ∧ j0 = j1 ∧ k0 = k1
  · obtain ⟨rfl, rfl, rfl⟩ := q
    rw [if_pos ⟨rfl, rfl, rfl⟩]
    refine ⟨-1, M, M, p_mgNone, ?_, JFr.refl, ?_, ?_⟩
    · unfold s_X5_addRegion
      rw [if_pos rfl]
    · rw [List.map_nil, List.append_nil]
      exact h
    · unfold k_cr
      rw [List.map_nil, List.append_nil]
      exact hR
  · rw [if_neg q]
    obtain ⟨M1, a1, a2, a3⟩ := p_mgAddPart hy' h (by omega) q (by omega)
    refine ⟨nI ts.length, M1, ?_⟩
    have F2 := h2.frame a2 (by omega)
    have F3 := h3.frame a2 (by omega)
    have FR := hR.frame a2 (by omega)
    have hk9 := p_kindOf hy' (h1.frame a2 (by omega)) F2 F3 a3 hi hj hk
    obtain ⟨kd, hkd⟩ : ∃ z, z = q_kind bs ls rs i0 i1 j0 j1 k0 k1 := ⟨_, rfl⟩
    have hkl := q_kind_le hkd.symm
    rw [← hkd] at hk9 ⊢
    obtain ⟨M2, b1, b2, b3⟩ := p_setKind hy' a3 (nI kd)
    unfold s_X5_addRegion
    rw [if_neg (nI_m1 (by omega)), hk9]
    dsimp only [Option.bind, lt_]
    rw [b1, y6]
    by_cases q2 : kd = 4
    · rw [if_pos (by rw [q2]; rfl), if_pos q2]
      have b4 : TB M2 (o + 29) 800 8 (ts ++ [k_F (4, i0, i1, j0, j1, k0, k1)]) := by
        rw [q2] at b3
        exact b3
      by_cases q3 : sh = 0
      · rw [if_pos q3]
        have r1 := p_push_LN z6 (FR.frame b2 (by omega)) hRl (nI ts.length)
        have r2 := p_push_fr z6 (FR.frame b2 (by omega)) hRl (nI ts.length)
        have e : q_conf ls rs (decide (sh ≠ 0)) i0 i1 j0 j1 k0 k1 = [(4, i0, i1, j0, j1, k0, k1)] := by
          rw [decide_eq_false (fun c => c q3)]
          rfl
        rw [e]
        exact ⟨_, a1, rfl, ((a2.trans b2).mono (by omega) (by omega)).trans (r2.mono (by omega) (by omega)), b4.frame r2 (by omega), r1⟩
      · rw [if_neg q3, decide_eq_true q3]
        obtain ⟨M3, c1, c2, c3, c4⟩ := p_shrink hy' (F2.frame b2 (by omega)) (F3.frame b2 (by omega)) b4 hl (FR.frame b2 (by omega)) hRl (by omega) hj hk (by
          intro c
          have : q_kind bs ls rs i0 i1 j0 j1 k0 k1 < 4 := by
            unfold q_kind
            rw [if_pos c]
            split
            · decide
            · split <;> decide
          omega)
        rw [c1]
        exact ⟨M3, a1, rfl, ((a2.trans b2).mono (by omega) (by omega)).trans c2, c3, c4⟩
    · have e4 : ¬ nI kd = (4 : Int32) := fun c => q2 ((nI_eq (b := 4) (by omega) (by omega)).mp c)
      rw [if_neg e4, if_neg q2]
      refine ⟨M2, a1, rfl, (a2.trans b2).mono (by omega) (by omega), b3, ?_⟩
      rw [k_cr_c, if_neg q2]
      unfold k_cr
      rw [List.map_nil, List.append_nil]
      exact FR.frame b2 (by omega)
end MGR

/-! ===== pure: class and model together: calls of documents ===== -/
theorem q_pairs_L {xs ys : List Int32} {i1 j1 : Nat} (hx : i1 ≤ xs.length) (hy : j1 ≤ ys.length) : ∀ (d i j : Nat), i1 = i + d → j ≤ j1 → (q_pairs xs ys i1 j1 d i j).length = q_L xs ys i1 j1 i j := by
  intro d
  induction d with
  | zero =>
    intro i j hi hj
    rw [q_L_i (by omega)]
    rfl
  | succ d ih =>
    intro i j hi hj
    unfold q_pairs
    cases hf : l_find ys ((xs[i]?).getD (-1)) j (j1 - j) with
    | none =>
      dsimp only
      rw [ih (i + 1) j (by omega) hj, q_none (by omega) hx hy (j1 - j) j (by omega) hf]
    | some k =>
      dsimp only
      have hk := l_find_lt hf
      have e := q_some (by omega) hx hy (j1 - j) j k (by omega) hf
      by_cases q : q_L xs ys i1 j1 (i + 1) (k + 1) + 1 = q_L xs ys i1 j1 i j
      · rw [if_pos q, List.length_cons, ih (i + 1) (k + 1) (by omega) (by omega), q]
      · rw [if_neg q, ih (i + 1) j (by omega) hj]
        omega
section RLE
variable {Y : JY} {M : JM}
theorem r_insert (hY : YH Y) (hL : RLL M) (p q v : Int32) : AG (s_L_insert Y M 0 p q v 174) (fun N => s_X10_insert Y N 140 p q v) := by
  have hL' := hL
  have hyM := hY.2.2.2.2.2.2.2.2.2.1
  have e1 : j_rf Y 140 1 = 140 + 1 := (hyM (1, 1, 96) (by decide)).1
  have l1 : j_ln Y (140 + 1) = 96 := (hyM (1, 1, 96) (by decide)).2
  have e2 : j_rf Y 140 2 = 140 + 2 := (hyM (2, 2, 4) (by decide)).1
  have l2 : j_ln Y (140 + 2) = 4 := (hyM (2, 2, 4) (by decide)).2
  obtain ⟨a0, a1, a2, a3, a4, a5, a6, a7, a8, a9⟩ := hL
  have a1' := a1
  have a3' := a3
  obtain ⟨ds, hS, hD⟩ := a1'
  obtain ⟨hs, hH, hHm⟩ := a3'
  by_cases hp : ∃ r : Nat, r < 4 ∧ p = nI r
  · obtain ⟨r, hr, rfl⟩ := hp
    obtain ⟨s1, s2, s3⟩ := h_sz hD hr
    have hdoc := hS r hr
    have h24 := hdoc.2.1
    have hya := hY.1.2.2.2.2.2 r hr
    have hroom := h_room (Y := Y) hdoc
    by_cases hv : s_X10_in Y M v 0 25 = 0
    · refine AG.bad (k := 1) (by decide) ?_ ?_ hL'
      · unfold s_L_insert s_X9_insert
        rw [h_doc hY hr]
        dsimp only [Option.bind]
        rw [h_lineN hv]
        rfl
      · show s_X10_insert Y M 140 (nI r) q v = some (0, _)
        unfold s_X10_insert
        rw [if_pos (Or.inr hv)]
        rfl
    · by_cases hl : (ds r).length < 24
      · by_cases hq : ∃ i : Nat, i < (ds r).length + 1 ∧ q = nI i
        · obtain ⟨i, hi, rfl⟩ := hq
          obtain ⟨M1, b1, b2, b3⟩ := p_hsRemember hY.2.2.1.2 hH hya.2 hdoc (by omega) hr
          have hdoc1 := hdoc.frame b2 (by omega)
          obtain ⟨M2, r0, r2, r1⟩ := p_pushAt hya.2 hdoc1 (p := i) (by omega) hl v
          have hil := l_ins_len (xs := ds r) (p := i) (v := v) (by omega)
          have hCF : CF [(1, 13), (25, 48)] [] M (j_up M2 174 0 (nI ((ds r).length + 1))) := ((CF.of b2 (by decide) (by decide)).trans (CF.of (r2.mono (lo' := 1) (hi' := 13) (by omega) (by omega)) (by decide) (by decide))).trans CF.out
          have hmd : ∀ t, t < 34 → j_up M2 174 0 (nI ((ds r).length + 1)) (140 + t) = M (140 + t) := fun t ht => hCF.md (by decide) ht
          obtain ⟨M4, c1, c2, c3, c4, c5⟩ := m_insert hyM (hD.eq (hmd 1 (by decide)) (hmd 2 (by decide))) (hHm.q (fun t ht => hmd t (by revert ht; revert t; decide)) (congrFun (hmd 0 (by decide)) 10)) hr hl (v := v) (fun c => hv c) (p := i) (by omega)
          have fo : JFr 174 175 M2 (j_up M2 174 0 (nI ((ds r).length + 1))) := JFr.up
          have fm : JFr 140 174 _ M4 := c2.jfr (by decide)
          refine AG.ok (v := nI ((ds r).length + 1)) (M0 := M2) ?_ c1 c3 c2 (by decide) ⟨a0.k hCF c2 (by decide), ⟨_, (((hS.frame b2 (by decide)).set r2 r1).frame fo (by decide)).frame fm (by decide), c4⟩, a2.k hCF c2 (by decide), ⟨_, ((b3.frame r2 (by omega)).frame fo (by decide)).frame fm (by decide), c5⟩, a4.k hCF c2 (by decide), a5.k hCF c2 (by decide), a6.k hCF c2 (by decide), a7.k hCF c2 (by decide), a8.k hCF c2 (by decide), a9.k hCF c2 (by decide)⟩
          have hle : ¬ (nI i < 0 ∨ ¬ (nI i ≤ nI (ds r).length)) := fun c => (h_le (by omega)).mp c ⟨i, hi, rfl⟩
          unfold s_L_insert s_X9_insert
          rw [h_doc hY hr]
          dsimp only [Option.bind]
          rw [h_line hv]
          dsimp only
          rw [hroom, if_pos hl]
          dsimp only
          rw [p_size hdoc, if_neg hle, hY.2.2.1.1, b1]
          dsimp only
          rw [r0]
          dsimp only
          rw [p_size r1, hil]
          exact h_ret hY
        · have hle : nI 0 = nI 0 := rfl
          refine AG.bad (k := 3) (by decide) ?_ ?_ hL'
          · unfold s_L_insert s_X9_insert
            rw [h_doc hY hr]
            dsimp only [Option.bind]
            rw [h_line hv]
            dsimp only
            rw [hroom, if_pos hl]
            dsimp only
            rw [p_size hdoc, if_pos ((h_le (by omega)).mpr hq)]
            rfl
          · show s_X10_insert Y M 140 (nI r) q v = some (0, _)
            unfold s_X10_insert
            rw [if_neg (by rintro (c | c); exact m_isRegT hr c; exact hv c), e2, l2]
            simp only [if_pos s1, s3, s2]
            have e24 : ¬ nI (ds r).length = (24 : Int32) := fun c => by
              have := (nI_eq (b := 24) (by omega) (by omega)).mp c
              omega
            rw [if_neg e24, if_pos ((m_up (by omega)).mpr hq)]
            rfl
      · refine AG.bad (k := 2) (by decide) ?_ ?_ hL'
        · unfold s_L_insert s_X9_insert
          rw [h_doc hY hr]
          dsimp only [Option.bind]
          rw [h_line hv]
          dsimp only
          rw [hroom, if_neg hl]
          rfl
        · show s_X10_insert Y M 140 (nI r) q v = some (0, _)
          unfold s_X10_insert
          rw [if_neg (by rintro (c | c); exact m_isRegT hr c; exact hv c), e2, l2]
          simp only [if_pos s1, s3, s2]
          rw [if_pos (by rw [show (ds r).length = 24 by omega]; rfl)]
          rfl
  · refine AG.bad (k := 1) (by decide) ?_ ?_ hL'
    · unfold s_L_insert s_X9_insert
      rw [h_docN hp]
      rfl
    · show s_X10_insert Y M 140 p q v = some (0, _)
      unfold s_X10_insert
      rw [if_pos (Or.inl (h_bad hp))]
      rfl
theorem r_delete (hY : YH Y) (hL : RLL M) (p q : Int32) : AG (s_L_delete Y M 0 p q 174) (fun N => s_X10_delete Y N 140 p q) := by
  have hL' := hL
  have hyM := hY.2.2.2.2.2.2.2.2.2.1
  have e1 : j_rf Y 140 1 = 140 + 1 := (hyM (1, 1, 96) (by decide)).1
  have l1 : j_ln Y (140 + 1) = 96 := (hyM (1, 1, 96) (by decide)).2
  have e2 : j_rf Y 140 2 = 140 + 2 := (hyM (2, 2, 4) (by decide)).1
  have l2 : j_ln Y (140 + 2) = 4 := (hyM (2, 2, 4) (by decide)).2
  obtain ⟨a0, a1, a2, a3, a4, a5, a6, a7, a8, a9⟩ := hL
  have a1' := a1
  have a3' := a3
  obtain ⟨ds, hS, hD⟩ := a1'
  obtain ⟨hs, hH, hHm⟩ := a3'
  by_cases hp : ∃ r : Nat, r < 4 ∧ p = nI r
  · obtain ⟨r, hr, rfl⟩ := hp
    obtain ⟨s1, s2, s3⟩ := h_sz hD hr
    have hdoc := hS r hr
    have h24 := hdoc.2.1
    have hya := hY.1.2.2.2.2.2 r hr
    by_cases hq : ∃ i : Nat, i < (ds r).length ∧ q = nI i
    · obtain ⟨i, hi, rfl⟩ := hq
      obtain ⟨M1, b1, b2, b3⟩ := p_hsRemember hY.2.2.1.2 hH hya.2 hdoc (by omega) hr
      have hdoc1 := hdoc.frame b2 (by omega)
      obtain ⟨M2, r0, r2, r1⟩ := p_removeAt hya.2 hdoc1 hi
      have hCF : ∀ v, CF [(1, 13), (25, 48)] [] M (j_up M2 174 0 v) := fun v => ((CF.of b2 (by decide) (by decide)).trans (CF.of (r2.mono (lo' := 1) (hi' := 13) (by omega) (by omega)) (by decide) (by decide))).trans CF.out
      have hCF := hCF (l_at (ds r) (nI i))
      have hmd : ∀ t, t < 34 → j_up M2 174 0 (l_at (ds r) (nI i)) (140 + t) = M (140 + t) := fun t ht => hCF.md (by decide) ht
      obtain ⟨M4, c1, c2, c3, c4, c5⟩ := m_delete hyM (hD.eq (hmd 1 (by decide)) (hmd 2 (by decide))) (hHm.q (fun t ht => hmd t (by revert ht; revert t; decide)) (congrFun (hmd 0 (by decide)) 10)) hr hi
      have fo : JFr 174 175 M2 (j_up M2 174 0 (l_at (ds r) (nI i))) := JFr.up
      have fm : JFr 140 174 _ M4 := c2.jfr (by decide)
      refine AG.ok (v := l_at (ds r) (nI i)) (M0 := M2) ?_ c1 c3 c2 (by decide) ⟨a0.k hCF c2 (by decide), ⟨_, (((hS.frame b2 (by decide)).set r2 r1).frame fo (by decide)).frame fm (by decide), c4⟩, a2.k hCF c2 (by decide), ⟨_, ((b3.frame r2 (by omega)).frame fo (by decide)).frame fm (by decide), c5⟩, a4.k hCF c2 (by decide), a5.k hCF c2 (by decide), a6.k hCF c2 (by decide), a7.k hCF c2 (by decide), a8.k hCF c2 (by decide), a9.k hCF c2 (by decide)⟩
      unfold s_L_delete s_X9_delete
      rw [h_doc hY hr]
      dsimp only [Option.bind]
      rw [if_neg (fun c => (h_has hya.2 hdoc _).mp c ⟨i, hi, rfl⟩), hY.2.2.1.1, b1]
      dsimp only
      rw [r0]
      dsimp only
      rw [l_at_lt (by omega) hi]
      exact h_ret hY
    · refine AG.bad (k := 2) (by decide) ?_ ?_ hL'
      · unfold s_L_delete s_X9_delete
        rw [h_doc hY hr]
        dsimp only [Option.bind]
        rw [if_pos ((h_has hya.2 hdoc _).mpr hq)]
        rfl
      · show s_X10_delete Y M 140 (nI r) q = some (0, _)
        unfold s_X10_delete
        rw [if_neg (m_isRegT hr), e2, l2]
        simp only [if_pos s1, s3, s2]
        rw [if_pos ((m_ix (by omega)).mpr hq)]
        rfl
  · refine AG.bad (k := 1) (by decide) ?_ ?_ hL'
    · unfold s_L_delete s_X9_delete
      rw [h_docN hp]
      rfl
    · show s_X10_delete Y M 140 p q = some (0, _)
      unfold s_X10_delete
      rw [if_pos (h_bad hp)]
      rfl
theorem r_length (hY : YH Y) (hL : RLL M) (p : Int32) : AG (s_L_length Y M 0 p 174) (fun N => s_X10_length Y N 140 p) := by
  have hL' := hL
  have hyM := hY.2.2.2.2.2.2.2.2.2.1
  have e1 : j_rf Y 140 1 = 140 + 1 := (hyM (1, 1, 96) (by decide)).1
  have l1 : j_ln Y (140 + 1) = 96 := (hyM (1, 1, 96) (by decide)).2
  have e2 : j_rf Y 140 2 = 140 + 2 := (hyM (2, 2, 4) (by decide)).1
  have l2 : j_ln Y (140 + 2) = 4 := (hyM (2, 2, 4) (by decide)).2
  obtain ⟨a0, a1, a2, a3, a4, a5, a6, a7, a8, a9⟩ := hL
  have a1' := a1
  have a3' := a3
  obtain ⟨ds, hS, hD⟩ := a1'
  obtain ⟨hs, hH, hHm⟩ := a3'
  by_cases hp : ∃ r : Nat, r < 4 ∧ p = nI r
  · obtain ⟨r, hr, rfl⟩ := hp
    obtain ⟨s1, s2, s3⟩ := h_sz hD hr
    have hdoc := hS r hr
    · skip
      have hCF : CF [] [] M (j_up M 174 0 (nI (ds r).length)) := CF.out
      have f0 : MF 140 [] [0] (j_up M 174 0 (nI (ds r).length)) (j_up (j_up M 174 0 (nI (ds r).length)) 140 0 0) := MF.uf
      have hmd : ∀ t, t < 34 → j_up M 174 0 (nI (ds r).length) (140 + t) = M (140 + t) := fun t ht => hCF.md (by decide) ht
      refine AG.ok (v := (nI (ds r).length)) (M0 := M) ?_ ?_ j_up_s f0 (by decide) (hL'.k hCF f0 (by decide) (by decide) (by decide) (by decide) (by decide) (by decide) (by decide) (by decide))
      · unfold s_L_length s_X9_length
        rw [h_doc hY hr]
        dsimp only [Option.bind]
        rw [p_size hdoc]
        exact h_ret hY
      · show s_X10_length Y _ 140 (nI r) = _
        unfold s_X10_length
        rw [if_neg (m_isRegT hr), e2, l2, if_pos s1, s3, hmd 2 (by decide), s2]
        rfl
  · refine AG.bad (k := 1) (by decide) ?_ ?_ hL'
    · unfold s_L_length s_X9_length
      rw [h_docN hp]
      rfl
    · show s_X10_length Y M 140 p = some (0, _)
      unfold s_X10_length
      rw [if_pos (h_bad hp)]
      rfl
theorem r_line (hY : YH Y) (hL : RLL M) (p q : Int32) : AG (s_L_line Y M 0 p q 174) (fun N => s_X10_line Y N 140 p q) := by
  have hL' := hL
  have hyM := hY.2.2.2.2.2.2.2.2.2.1
  have e1 : j_rf Y 140 1 = 140 + 1 := (hyM (1, 1, 96) (by decide)).1
  have l1 : j_ln Y (140 + 1) = 96 := (hyM (1, 1, 96) (by decide)).2
  have e2 : j_rf Y 140 2 = 140 + 2 := (hyM (2, 2, 4) (by decide)).1
  have l2 : j_ln Y (140 + 2) = 4 := (hyM (2, 2, 4) (by decide)).2
  obtain ⟨a0, a1, a2, a3, a4, a5, a6, a7, a8, a9⟩ := hL
  have a1' := a1
  have a3' := a3
  obtain ⟨ds, hS, hD⟩ := a1'
  obtain ⟨hs, hH, hHm⟩ := a3'
  by_cases hp : ∃ r : Nat, r < 4 ∧ p = nI r
  · obtain ⟨r, hr, rfl⟩ := hp
    obtain ⟨s1, s2, s3⟩ := h_sz hD hr
    have hdoc := hS r hr
    have h24 := hdoc.2.1
    have hya := hY.1.2.2.2.2.2 r hr
    by_cases hq : ∃ i : Nat, i < (ds r).length ∧ q = nI i
    · obtain ⟨i, hi, rfl⟩ := hq
      have hCF : CF [] [] M (j_up M 174 0 (l_at (ds r) (nI i))) := CF.out
      have f0 : MF 140 [] [0] (j_up M 174 0 (l_at (ds r) (nI i))) (j_up (j_up M 174 0 (l_at (ds r) (nI i))) 140 0 0) := MF.uf
      have hmd : ∀ t, t < 34 → j_up M 174 0 (l_at (ds r) (nI i)) (140 + t) = M (140 + t) := fun t ht => hCF.md (by decide) ht
      refine AG.ok (v := (l_at (ds r) (nI i))) (M0 := M) ?_ ?_ j_up_s f0 (by decide) (hL'.k hCF f0 (by decide) (by decide) (by decide) (by decide) (by decide) (by decide) (by decide) (by decide))
      · unfold s_L_line s_X9_line
        rw [h_doc hY hr]
        dsimp only [Option.bind]
        rw [if_neg (fun c => (h_has hya.2 hdoc _).mp c ⟨i, hi, rfl⟩), p_at hya.2 hdoc]
        exact h_ret hY
      · show s_X10_line Y _ 140 (nI r) (nI i) = _
        unfold s_X10_line
        rw [if_neg (m_isRegT hr), e2, l2, e1, l1]
        simp only [if_pos s1, s3, hmd 2 (by decide), s2]
        rw [if_neg (fun c => (m_ix (by omega)).mp c ⟨i, hi, rfl⟩), nI_24, if_pos (j_g_nI (by omega) (by omega)), nI_clamp (by omega), hmd 1 (by decide), (hD.dr hr).get hi, ← l_at_nI (by omega)]
        rfl
    · refine AG.bad (k := 2) (by decide) ?_ ?_ hL'
      · unfold s_L_line s_X9_line
        rw [h_doc hY hr]
        dsimp only [Option.bind]
        rw [if_pos ((h_has hya.2 hdoc _).mpr hq)]
        rfl
      · show s_X10_line Y M 140 (nI r) q = some (0, _)
        unfold s_X10_line
        rw [if_neg (m_isRegT hr), e2, l2]
        simp only [if_pos s1, s3, s2]
        rw [if_pos ((m_ix (by omega)).mpr hq)]
        rfl
  · refine AG.bad (k := 1) (by decide) ?_ ?_ hL'
    · unfold s_L_line s_X9_line
      rw [h_docN hp]
      rfl
    · show s_X10_line Y M 140 p q = some (0, _)
      unfold s_X10_line
      rw [if_pos (h_bad hp)]
      rfl
theorem p_become2 {a b : Nat} {xs ys : List Int32} (hya : LnAt Y a 24) (ha : LN M a 24 xs) (hyb : LnAt Y b 24) (hb : LN M b 24 ys) (hd : b + 2 ≤ a ∨ a + 2 ≤ b ∨ a = b) : ∃ M', s_X4_become Y M a b = some M' ∧ JFr a (a + 2) M M' ∧ LN M' a 24 ys := by
  by_cases e : a = b
  · subst e
    exact ⟨M, p_become_self hb, JFr.refl, hb⟩
  · exact p_become hya hyb hb (by omega) hb.2.1
theorem r_copy (hY : YH Y) (hL : RLL M) (p q : Int32) : AG (s_L_copy Y M 0 p q 174) (fun N => s_X10_copy Y N 140 p q) := by
  have hL' := hL
  have hyM := hY.2.2.2.2.2.2.2.2.2.1
  have e1 : j_rf Y 140 1 = 140 + 1 := (hyM (1, 1, 96) (by decide)).1
  have l1 : j_ln Y (140 + 1) = 96 := (hyM (1, 1, 96) (by decide)).2
  have e2 : j_rf Y 140 2 = 140 + 2 := (hyM (2, 2, 4) (by decide)).1
  have l2 : j_ln Y (140 + 2) = 4 := (hyM (2, 2, 4) (by decide)).2
  obtain ⟨a0, a1, a2, a3, a4, a5, a6, a7, a8, a9⟩ := hL
  have a1' := a1
  have a3' := a3
  obtain ⟨ds, hS, hD⟩ := a1'
  obtain ⟨hs, hH, hHm⟩ := a3'
  by_cases hp : ∃ r : Nat, r < 4 ∧ p = nI r
  · obtain ⟨f, hf, rfl⟩ := hp
    by_cases hq : ∃ r : Nat, r < 4 ∧ q = nI r
    · obtain ⟨r, hr, rfl⟩ := hq
      obtain ⟨s1, s2, s3⟩ := h_sz hD hr
      have hdoc := hS r hr
      have hdocf := hS f hf
      have h24 := hdoc.2.1
      have h24f := hdocf.2.1
      have hya := hY.1.2.2.2.2.2 r hr
      have hyaf := hY.1.2.2.2.2.2 f hf
      obtain ⟨M1, b1, b2, b3⟩ := p_hsRemember hY.2.2.1.2 hH hya.2 hdoc (by omega) hr
      obtain ⟨M2, r0, r2, r1⟩ := p_become2 hya.2 (hdoc.frame b2 (by omega)) hyaf.2 (hdocf.frame b2 (by omega)) (by omega)
      have hCF : CF [(1, 13), (25, 48)] [] M (j_up M2 174 0 (nI (ds f).length)) := ((CF.of b2 (by decide) (by decide)).trans (CF.of (r2.mono (lo' := 1) (hi' := 13) (by omega) (by omega)) (by decide) (by decide))).trans CF.out
      have hmd : ∀ t, t < 34 → j_up M2 174 0 (nI (ds f).length) (140 + t) = M (140 + t) := fun t ht => hCF.md (by decide) ht
      obtain ⟨M4, c1, c2, c3, c4, c5⟩ := m_copy hyM (hD.eq (hmd 1 (by decide)) (hmd 2 (by decide))) (hHm.q (fun t ht => hmd t (by revert ht; revert t; decide)) (congrFun (hmd 0 (by decide)) 10)) hf hr
      have fo : JFr 174 175 M2 (j_up M2 174 0 (nI (ds f).length)) := JFr.up
      have fm : JFr 140 174 _ M4 := c2.jfr (by decide)
      refine AG.ok (v := nI (ds f).length) (M0 := M2) ?_ c1 c3 c2 (by decide) ⟨a0.k hCF c2 (by decide), ⟨_, (((hS.frame b2 (by decide)).set r2 r1).frame fo (by decide)).frame fm (by decide), c4⟩, a2.k hCF c2 (by decide), ⟨_, ((b3.frame r2 (by omega)).frame fo (by decide)).frame fm (by decide), c5⟩, a4.k hCF c2 (by decide), a5.k hCF c2 (by decide), a6.k hCF c2 (by decide), a7.k hCF c2 (by decide), a8.k hCF c2 (by decide), a9.k hCF c2 (by decide)⟩
      unfold s_L_copy s_X9_copy s_X9_changeTo
      rw [h_doc hY hf]
      dsimp only [Option.bind]
      rw [h_doc hY hr]
      dsimp only
      rw [hY.2.2.1.1, b1]
      dsimp only
      rw [r0]
      dsimp only
      rw [p_size r1]
      exact h_ret hY
    · refine AG.bad (k := 1) (by decide) ?_ ?_ hL'
      · unfold s_L_copy s_X9_copy
        rw [h_doc hY hf]
        dsimp only [Option.bind]
        rw [h_docN hq]
        rfl
      · show s_X10_copy Y M 140 (nI f) q = some (0, _)
        unfold s_X10_copy
        rw [if_pos (Or.inr (h_bad hq))]
        rfl
  · refine AG.bad (k := 1) (by decide) ?_ ?_ hL'
    · unfold s_L_copy s_X9_copy
      rw [h_docN hp]
      rfl
    · show s_X10_copy Y M 140 p q = some (0, _)
      unfold s_X10_copy
      rw [if_pos (Or.inl (h_bad hp))]
      rfl
theorem r_distance (hY : YH Y) (hL : RLL M) (p q : Int32) : AG (s_L_distance Y M 0 p q 174) (fun N => s_X10_distance Y N 140 p q) := by
  have hL' := hL
  have hyM := hY.2.2.2.2.2.2.2.2.2.1
  have e1 : j_rf Y 140 1 = 140 + 1 := (hyM (1, 1, 96) (by decide)).1
  have l1 : j_ln Y (140 + 1) = 96 := (hyM (1, 1, 96) (by decide)).2
  have e2 : j_rf Y 140 2 = 140 + 2 := (hyM (2, 2, 4) (by decide)).1
  have l2 : j_ln Y (140 + 2) = 4 := (hyM (2, 2, 4) (by decide)).2
  obtain ⟨a0, a1, a2, a3, a4, a5, a6, a7, a8, a9⟩ := hL
  have a1' := a1
  have a3' := a3
  obtain ⟨ds, hS, hD⟩ := a1'
  obtain ⟨hs, hH, hHm⟩ := a3'
  by_cases hp : ∃ r : Nat, r < 4 ∧ p = nI r
  · obtain ⟨f, hf, rfl⟩ := hp
    by_cases hq : ∃ r : Nat, r < 4 ∧ q = nI r
    · obtain ⟨r, hr, rfl⟩ := hq
      obtain ⟨s1, s2, s3⟩ := h_sz hD hr
      have hdoc := hS r hr
      have hdocf := hS f hf
      have h24 := hdoc.2.1
      have h24f := hdocf.2.1
      have hya := hY.1.2.2.2.2.2 r hr
      have hyaf := hY.1.2.2.2.2.2 f hf
      obtain ⟨rs0, l6, t6⟩ := a6
      obtain ⟨M1, rs', b1, b2, b3⟩ := p_build (M := M) (o := 55) hY.2.2.2.2.2.1.2 hyaf.2 hya.2 (by omega) (by omega) h24f h24 ⟨rs0, l6, t6⟩ hdocf hdoc 0
      have hal : (q_align (ds f) (ds r) (decide ((0 : Int32) = 1))).1.length = q_L (ds f) (ds r) (ds f).length (ds r).length 0 0 := by
        rw [decide_eq_false (by decide)]
        exact q_pairs_L (Nat.le_refl _) (Nat.le_refl _) (ds f).length 0 0 (by omega) (Nat.zero_le _)
      obtain ⟨V, hV⟩ : ∃ z, z = nI (ds f).length + nI (ds r).length - 2 * nI (q_L (ds f) (ds r) (ds f).length (ds r).length 0 0) := ⟨_, rfl⟩
      have hCF : CF [(55, 66)] [] M (j_up M1 174 0 V) := (CF.of b2 (by decide) (by decide)).trans CF.out
      have hmd : ∀ t, t < 34 → j_up M1 174 0 V (140 + t) = M (140 + t) := fun t ht => hCF.md (by decide) ht
      obtain ⟨M4, c1, c2, c3⟩ := m_distance hyM (hD.eq (hmd 1 (by decide)) (hmd 2 (by decide))) hf hr
      rw [← hV] at c1
      have fo : JFr 174 175 M1 (j_up M1 174 0 V) := JFr.up
      have fm : JFr 140 174 _ M4 := c2.jfr (by decide)
      have hA6 := (b3.frame fo (by decide)).frame fm (by decide)
      refine AG.ok (v := V) (M0 := M1) ?_ c1 c3 c2 (by decide) ⟨a0.k hCF c2 (by decide), a1.k hCF c2 (by decide), a2.k hCF c2 (by decide), a3.k hCF c2 (by decide), a4.k hCF c2 (by decide), a5.k hCF c2 (by decide), ⟨rs', hA6.2.2.2.2.1, hA6.2.2.2.2.2⟩, a7.k hCF c2 (by decide), a8.k hCF c2 (by decide), a9.k hCF c2 (by decide)⟩
      unfold s_L_distance s_X9_distance
      rw [h_doc hY hf]
      dsimp only [Option.bind]
      rw [h_doc hY hr]
      dsimp only
      rw [hY.2.2.2.2.2.1.1, b1]
      dsimp only
      have e5 : s_X0_pairs Y M1 55 = nI (q_align (ds f) (ds r) (decide ((0 : Int32) = 1))).1.length := b3.2.2.1
      rw [p_size (hdocf.frame b2 (by omega)), p_size (hdoc.frame b2 (by omega)), e5, hal, ← hV]
      exact h_ret hY
    · refine AG.bad (k := 1) (by decide) ?_ ?_ hL'
      · unfold s_L_distance s_X9_distance
        rw [h_doc hY hf]
        dsimp only [Option.bind]
        rw [h_docN hq]
        rfl
      · show s_X10_distance Y M 140 (nI f) q = some (0, _)
        unfold s_X10_distance
        rw [if_pos (Or.inr (h_bad hq))]
        rfl
  · refine AG.bad (k := 1) (by decide) ?_ ?_ hL'
    · unfold s_L_distance s_X9_distance
      rw [h_docN hp]
      rfl
    · show s_X10_distance Y M 140 p q = some (0, _)
      unfold s_X10_distance
      rw [if_pos (Or.inl (h_bad hp))]
      rfl
theorem r_isSame (hY : YH Y) (hL : RLL M) (p q : Int32) : AG (s_L_isSame Y M 0 p q 174) (fun N => s_X10_isSame Y N 140 p q) := by
  have hL' := hL
  have hyM := hY.2.2.2.2.2.2.2.2.2.1
  have e1 : j_rf Y 140 1 = 140 + 1 := (hyM (1, 1, 96) (by decide)).1
  have l1 : j_ln Y (140 + 1) = 96 := (hyM (1, 1, 96) (by decide)).2
  have e2 : j_rf Y 140 2 = 140 + 2 := (hyM (2, 2, 4) (by decide)).1
  have l2 : j_ln Y (140 + 2) = 4 := (hyM (2, 2, 4) (by decide)).2
  obtain ⟨a0, a1, a2, a3, a4, a5, a6, a7, a8, a9⟩ := hL
  have a1' := a1
  have a3' := a3
  obtain ⟨ds, hS, hD⟩ := a1'
  obtain ⟨hs, hH, hHm⟩ := a3'
  by_cases hp : ∃ r : Nat, r < 4 ∧ p = nI r
  · obtain ⟨f, hf, rfl⟩ := hp
    by_cases hq : ∃ r : Nat, r < 4 ∧ q = nI r
    · obtain ⟨r, hr, rfl⟩ := hq
      obtain ⟨s1, s2, s3⟩ := h_sz hD hr
      have hdoc := hS r hr
      have hdocf := hS f hf
      have h24 := hdoc.2.1
      have h24f := hdocf.2.1
      have hya := hY.1.2.2.2.2.2 r hr
      have hyaf := hY.1.2.2.2.2.2 f hf
      obtain ⟨V, hV⟩ : ∃ z : Int32, z = if ds f = ds r then 1 else 0 := ⟨_, rfl⟩
      have hCF : CF [] [] M (j_up M 174 0 V) := CF.out
      have f0 : MF 140 [] [0] (j_up M 174 0 V) (j_up (j_up M 174 0 V) 140 0 0) := MF.uf
      have hmd : ∀ t, t < 34 → j_up M 174 0 V (140 + t) = M (140 + t) := fun t ht => hCF.md (by decide) ht
      refine AG.ok (v := V) (M0 := M) ?_ ?_ j_up_s f0 (by decide) (hL'.k hCF f0 (by decide) (by decide) (by decide) (by decide) (by decide) (by decide) (by decide) (by decide))
      · have hsp := p_samePart hyaf.2 hdocf hya.2 hdoc (b := 0) (e := (ds f).length) (b' := 0) (e' := (ds r).length) (Nat.zero_le _) (Nat.le_refl _) (Nat.zero_le _) (Nat.le_refl _)
        rw [l_seg_all, l_seg_all, ← hV, nI_0] at hsp
        unfold s_L_isSame s_X9_isSame
        rw [h_doc hY hf]
        dsimp only [Option.bind]
        rw [h_doc hY hr]
        dsimp only
        rw [p_size hdocf, p_size hdoc, hsp]
        dsimp only [lt_]
        have e : (if V = 0 then (0 : Int32) else 1) = V := by
          rw [hV]
          split <;> rfl
        rw [e]
        exact h_ret hY
      · show s_X10_isSame Y _ 140 (nI f) (nI r) = _
        rw [m_isSame hyM (hD.eq (hmd 1 (by decide)) (hmd 2 (by decide))) hf hr, ← hV]
    · refine AG.bad (k := 1) (by decide) ?_ ?_ hL'
      · unfold s_L_isSame s_X9_isSame
        rw [h_doc hY hf]
        dsimp only [Option.bind]
        rw [h_docN hq]
        rfl
      · show s_X10_isSame Y M 140 (nI f) q = some (0, _)
        unfold s_X10_isSame
        rw [if_pos (Or.inr (h_bad hq))]
        rfl
  · refine AG.bad (k := 1) (by decide) ?_ ?_ hL'
    · unfold s_L_isSame s_X9_isSame
      rw [h_docN hp]
      rfl
    · show s_X10_isSame Y M 140 p q = some (0, _)
      unfold s_X10_isSame
      rw [if_pos (Or.inl (h_bad hp))]
      rfl
theorem r_setMode (hY : YH Y) (hL : RLL M) (p : Int32) : AG (s_L_setMode Y M 0 p 174) (fun N => some (s_X10_setMode Y N 140 p)) := by
  have hL' := hL
  have hyM := hY.2.2.2.2.2.2.2.2.2.1
  have e1 : j_rf Y 140 1 = 140 + 1 := (hyM (1, 1, 96) (by decide)).1
  have l1 : j_ln Y (140 + 1) = 96 := (hyM (1, 1, 96) (by decide)).2
  have e2 : j_rf Y 140 2 = 140 + 2 := (hyM (2, 2, 4) (by decide)).1
  have l2 : j_ln Y (140 + 2) = 4 := (hyM (2, 2, 4) (by decide)).2
  obtain ⟨a0, a1, a2, a3, a4, a5, a6, a7, a8, a9⟩ := hL
  have a1' := a1
  have a3' := a3
  obtain ⟨ds, hS, hD⟩ := a1'
  obtain ⟨hs, hH, hHm⟩ := a3'
  by_cases hp : p = 0 ∨ p = 1
  · have hCF : CF [] [9] M (j_up (j_up M 0 9 p) 174 0 (M 0 9)) := (CF.root (by decide)).trans CF.out
    have f1 : MF 140 [] [3] (j_up (j_up M 0 9 p) 174 0 (M 0 9)) (j_up (j_up (j_up M 0 9 p) 174 0 (M 0 9)) 140 3 p) := MF.uf
    have f2 : MF 140 [] [0] (j_up (j_up (j_up M 0 9 p) 174 0 (M 0 9)) 140 3 p) (j_up (j_up (j_up (j_up M 0 9 p) 174 0 (M 0 9)) 140 3 p) 140 0 0) := MF.uf
    have c2 : MF 140 [] [0, 3] (j_up (j_up M 0 9 p) 174 0 (M 0 9)) (j_up (j_up (j_up (j_up M 0 9 p) 174 0 (M 0 9)) 140 3 p) 140 0 0) := (f1.mono (by simp) (by simp)).trans (f2.mono (by simp) (by simp))
    have hmd : ∀ t, t < 34 → j_up (j_up M 0 9 p) 174 0 (M 0 9) (140 + t) = M (140 + t) := fun t ht => hCF.md (by decide) ht
    have x9 : (j_up (j_up (j_up (j_up M 0 9 p) 174 0 (M 0 9)) 140 3 p) 140 0 0) 0 9 = p := by
      rw [c2.cls (by decide) (Or.inl (by decide)), j_up_o (by decide), j_up_s]
    have x12 : (j_up (j_up (j_up (j_up M 0 9 p) 174 0 (M 0 9)) 140 3 p) 140 0 0) 0 12 = M 0 12 := by
      rw [c2.cls (by decide) (Or.inl (by decide))]
      exact hCF.2 12 (by decide)
    have x3 : (j_up (j_up (j_up (j_up M 0 9 p) 174 0 (M 0 9)) 140 3 p) 140 0 0) 140 3 = p := by
      rw [j_up_k (by decide), j_up_s]
    have x4 : (j_up (j_up (j_up (j_up M 0 9 p) 174 0 (M 0 9)) 140 3 p) 140 0 0) 140 4 = M 140 4 := by
      rw [c2.fld (by decide) (by decide)]
      exact congrFun (hmd 0 (by decide)) 4
    obtain ⟨z1, z2, z3, z4⟩ := a0
    refine AG.ok (v := M 0 9) (M0 := j_up M 0 9 p) ?_ ?_ j_up_s c2 (by decide) ⟨⟨x9.trans x3.symm, by rw [x9]; exact hp, by rw [x12, x4]; exact z3, by rw [x12]; exact z4⟩, a1.k hCF c2 (by decide), a2.k hCF c2 (by decide), a3.k hCF c2 (by decide), a4.k hCF c2 (by decide), a5.k hCF c2 (by decide), a6.k hCF c2 (by decide), a7.k hCF c2 (by decide), a8.k hCF c2 (by decide), a9.k hCF c2 (by decide)⟩
    · unfold s_L_setMode s_X9_setMode
      rw [if_pos hp]
      dsimp only [lt_, Option.bind]
      exact h_ret hY
    · show some (s_X10_setMode Y _ 140 p) = _
      have e3 : (j_up (j_up M 0 9 p) 174 0 (M 0 9)) 140 3 = M 0 9 := by
        have := congrFun (hmd 0 (by decide)) 3
        rw [z1]
        exact this
      unfold s_X10_setMode
      rw [if_neg (by rw [m_in]; rcases hp with rfl | rfl <;> decide)]
      dsimp only [lt_]
      rw [e3]
      rfl
  · refine AG.bad (k := 1) (by decide) ?_ ?_ hL'
    · unfold s_L_setMode s_X9_setMode
      rw [if_neg hp]
      rfl
    · show some (s_X10_setMode Y M 140 p) = some (0, _)
      unfold s_X10_setMode
      rw [if_pos]
      · rfl
      · have := (m_up (Y := Y) (M := M) (p := p) (c := 1) (by decide)).mpr
        refine this ?_
        rintro ⟨j, hj, rfl⟩
        rcases (show j = 0 ∨ j = 1 by omega) with rfl | rfl
        · exact hp (Or.inl nI_0)
        · exact hp (Or.inr rfl)
end RLE

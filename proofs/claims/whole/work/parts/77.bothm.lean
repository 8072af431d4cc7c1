/-! ===== pure: class and model together: moves and merges ===== -/
section RLG
variable {Y : JY} {M : JM}
theorem m_up2 {p v : Int32} {c : Nat} (hv : v = nI c) (hc : c < 2 ^ 31) : s_X10_in Y M p 0 v = 0 ↔ ¬ ∃ j : Nat, j < c + 1 ∧ p = nI j := by rw [hv]; exact m_up hc
theorem h_le2 {p v : Int32} {c : Nat} (hv : v = nI c) (hc : c < 2 ^ 31) : (p < 0 ∨ ¬ (p ≤ v)) ↔ ¬ ∃ j : Nat, j < c + 1 ∧ p = nI j := by rw [hv]; exact h_le hc
theorem h_prop {q cap c : Nat} {rs : List (List Int32)} (z : TbAt Y q cap) (hc : 0 < c) (hc9 : c < 1000) (h : TB M q cap c rs) {i j n : Nat} (hi : i < rs.length) (hj : j < n) (hn : n < 1000) : s_X9_property Y M q (nI i) (nI j) (nI n) = some (Sum.inr (t_at rs i j, M)) := by
  have h9 := h.lens hc
  have h8 := z.2.2
  unfold s_X9_property
  rw [if_neg (fun x => (h_hasRow z hc h _).mp x ⟨i, hi, rfl⟩), if_neg (fun x => (h_lt (by omega)).mp x ⟨j, hj, rfl⟩), p_tat z hc hc9 h (by omega) (by omega)]
theorem h_propI {q cap c : Nat} {rs : List (List Int32)} (z : TbAt Y q cap) (hc : 0 < c) (h : TB M q cap c rs) {p w v : Int32} (hi : ¬ ∃ i : Nat, i < rs.length ∧ p = nI i) : s_X9_property Y M q p w v = some (Sum.inl (2, M)) := by
  unfold s_X9_property
  rw [if_pos ((h_hasRow z hc h _).mpr hi)]
theorem h_propW {q cap c : Nat} {rs : List (List Int32)} (z : TbAt Y q cap) (hc : 0 < c) (h : TB M q cap c rs) {i n : Nat} {w : Int32} (hi : i < rs.length) (hn : n < 1000) (hw : ¬ ∃ j : Nat, j < n ∧ w = nI j) : s_X9_property Y M q (nI i) w (nI n) = some (Sum.inl (0, M)) := by
  unfold s_X9_property
  rw [if_neg (fun x => (h_hasRow z hc h _).mp x ⟨i, hi, rfl⟩), if_pos ((h_lt (by omega)).mpr hw)]
theorem r_difference (hY : YH Y) (hL : RLL M) (p w : Int32) : AG (s_L_difference Y M 0 p w 174) (fun N => s_X10_difference Y N 140 p w) := by
  have hL' := hL
  have hyM := hY.2.2.2.2.2.2.2.2.2.1
  have e1 : j_rf Y 140 1 = 140 + 1 := (hyM (1, 1, 96) (by decide)).1
  have l1 : j_ln Y (140 + 1) = 96 := (hyM (1, 1, 96) (by decide)).2
  have e2 : j_rf Y 140 2 = 140 + 2 := (hyM (2, 2, 4) (by decide)).1
  have l2 : j_ln Y (140 + 2) = 4 := (hyM (2, 2, 4) (by decide)).2
  obtain ⟨a0, a1, a2, a3, a4, a5, a6, a7, a8, a9⟩ := hL
  have a1' := a1
  have a3' := a3
  obtain ⟨ds, hS, hD⟩ := a1'
  obtain ⟨hs, hH, hHm⟩ := a3'
  have a7' := a7
  obtain ⟨mk, xs, ys, P, anc, mv, hC, hCm⟩ := a7'
  have hyC := hY.2.2.2.2.2.2.1.2
  have h66 : j_rf Y 0 6 = 66 := hY.2.2.2.2.2.2.1.1
  have hreq : s_X9_requireComparison Y M 0 = if mk then some (Sum.inr M) else some (Sum.inl (1, M)) := by
    unfold s_X9_requireComparison s_X1_exists
    rw [h66, hC.1]
    cases mk <;> rfl
  have hz : j_z (M 140 25) = if mk then 1 else 0 := by
    rw [hCm.1]
    cases mk <;> rfl
  cases mk with
  | false =>
    refine AG.bad (k := 1) (by decide) ?_ ?_ hL'
    · unfold s_L_difference s_X9_difference
      rw [hreq]
      rfl
    · show s_X10_difference Y M 140 p w = some (0, _)
      unfold s_X10_difference
      rw [hz]
      rfl
  | true =>
    obtain ⟨d1, d2, d3, ⟨rs7, d4⟩, d5, d6⟩ := hC.2.2.2.2 rfl
    obtain ⟨e3, e4, e5, e6, e7, e8, e9, e10, e11, e12, e13⟩ := hCm.2.2.2.2 rfl
    have h24 := d1.2.1
    have hl25 := q_diffs_len (pt := lk P) (n := xs.length) (m := ys.length)
    have e34 : j_rf Y 140 34 = 140 + 19 := (hyM (34, 19, 120) (by decide)).1
    have l34 : j_ln Y (140 + 19) = 120 := (hyM (34, 19, 120) (by decide)).2
    have zt := hyC.2.2.2.1.2
    by_cases hq : ∃ i : Nat, i < (q_diffs (lk P) xs.length ys.length).length ∧ p = nI i
    · obtain ⟨i, hi, rfl⟩ := hq
      by_cases hw : ∃ j : Nat, j < 4 ∧ w = nI j
      · obtain ⟨j, hj, rfl⟩ := hw
        have hCF : CF [] [] M (j_up M 174 0 (t_at (q_diffs (lk P) xs.length ys.length) i j)) := CF.out
        have f0 : MF 140 [] [0] (j_up M 174 0 (t_at (q_diffs (lk P) xs.length ys.length) i j)) (j_up (j_up M 174 0 (t_at (q_diffs (lk P) xs.length ys.length) i j)) 140 0 0) := MF.uf
        have hmd : ∀ t, t < 34 → j_up M 174 0 (t_at (q_diffs (lk P) xs.length ys.length) i j) (140 + t) = M (140 + t) := fun t ht => hCF.md (by decide) ht
        refine AG.ok (v := (t_at (q_diffs (lk P) xs.length ys.length) i j)) (M0 := M) ?_ ?_ j_up_s f0 (by decide) (hL'.k hCF f0 (by decide) (by decide) (by decide) (by decide) (by decide) (by decide) (by decide) (by decide))
        · unfold s_L_difference s_X9_difference s_X1_parts
          rw [hreq, h66, hyC.2.2.2.1.1, if_pos rfl]
          dsimp only [Option.bind]
          have e := h_prop zt (by decide) (by decide) d5 hi hj (by decide)
          rw [show nI 4 = (4 : Int32) from rfl] at e
          rw [e]
          exact h_ret hY
        · show s_X10_difference Y _ 140 (nI i) (nI j) = _
          have h0 := congrFun (hmd 0 (by decide))
          unfold s_X10_difference
          rw [h0 25, hz, if_neg (by decide), h0 35, e12, if_neg (fun c => (m_ix (by omega)).mp c ⟨i, hi, rfl⟩), if_neg (fun c => (m_up2 (c := 3) (v := 3) rfl (by decide)).mp c ⟨j, hj, rfl⟩), e34, l34, nI_4a, nI_add, if_pos (j_g_nI (by omega) (by omega)), nI_clamp (by omega), hmd 19 (by decide), e13 i hi j hj]
          rfl
      · refine AG.bad (k := 3) (by decide) ?_ ?_ hL'
        · unfold s_L_difference s_X9_difference s_X1_parts
          rw [hreq, h66, hyC.2.2.2.1.1, if_pos rfl]
          dsimp only [Option.bind]
          have e := h_propW zt (by decide) d5 hi (n := 4) (by decide) hw
          rw [show nI 4 = (4 : Int32) from rfl] at e
          rw [e]
          rfl
        · show s_X10_difference Y M 140 (nI i) w = some (0, _)
          unfold s_X10_difference
          rw [hz, if_neg (by decide), e12, if_neg (fun c => (m_ix (by omega)).mp c ⟨i, hi, rfl⟩), if_pos ((m_up2 (c := 3) (v := 3) rfl (by decide)).mpr hw)]
          rfl
    · refine AG.bad (k := 2) (by decide) ?_ ?_ hL'
      · unfold s_L_difference s_X9_difference s_X1_parts
        rw [hreq, h66, hyC.2.2.2.1.1, if_pos rfl]
        dsimp only [Option.bind]
        rw [h_propI zt (by decide) d5 hq]
        rfl
      · show s_X10_difference Y M 140 p w = some (0, _)
        unfold s_X10_difference
        rw [hz, if_neg (by decide), e12, if_pos ((m_ix (by omega)).mpr hq)]
        rfl
theorem r_move (hY : YH Y) (hL : RLL M) (p w : Int32) : AG (s_L_move Y M 0 p w 174) (fun N => s_X10_move Y N 140 p w) := by
  have hL' := hL
  have hyM := hY.2.2.2.2.2.2.2.2.2.1
  have e1 : j_rf Y 140 1 = 140 + 1 := (hyM (1, 1, 96) (by decide)).1
  have l1 : j_ln Y (140 + 1) = 96 := (hyM (1, 1, 96) (by decide)).2
  have e2 : j_rf Y 140 2 = 140 + 2 := (hyM (2, 2, 4) (by decide)).1
  have l2 : j_ln Y (140 + 2) = 4 := (hyM (2, 2, 4) (by decide)).2
  obtain ⟨a0, a1, a2, a3, a4, a5, a6, a7, a8, a9⟩ := hL
  have a1' := a1
  have a3' := a3
  obtain ⟨ds, hS, hD⟩ := a1'
  obtain ⟨hs, hH, hHm⟩ := a3'
  have a7' := a7
  obtain ⟨mk, xs, ys, P, anc, mv, hC, hCm⟩ := a7'
  have hyC := hY.2.2.2.2.2.2.1.2
  have h66 : j_rf Y 0 6 = 66 := hY.2.2.2.2.2.2.1.1
  have e32 : j_rf Y 140 32 = 140 + 18 := (hyM (32, 18, 72) (by decide)).1
  have l32 : j_ln Y (140 + 18) = 72 := (hyM (32, 18, 72) (by decide)).2
  have zt := hyC.2.2.2.2.2.1.2
  have d5 := hC.2.1
  have e12 := hCm.2.1
  have e13 := hCm.2.2.1
  have hl25 := hCm.2.2.2.1
  by_cases hq : ∃ i : Nat, i < mv.length ∧ p = nI i
  · obtain ⟨i, hi, rfl⟩ := hq
    by_cases hw : ∃ j : Nat, j < 3 ∧ w = nI j
    · obtain ⟨j, hj, rfl⟩ := hw
      have hCF : CF [] [] M (j_up M 174 0 (t_at mv i j)) := CF.out
      have f0 : MF 140 [] [0] (j_up M 174 0 (t_at mv i j)) (j_up (j_up M 174 0 (t_at mv i j)) 140 0 0) := MF.uf
      have hmd : ∀ t, t < 34 → j_up M 174 0 (t_at mv i j) (140 + t) = M (140 + t) := fun t ht => hCF.md (by decide) ht
      refine AG.ok (v := (t_at mv i j)) (M0 := M) ?_ ?_ j_up_s f0 (by decide) (hL'.k hCF f0 (by decide) (by decide) (by decide) (by decide) (by decide) (by decide) (by decide) (by decide))
      · unfold s_L_move s_X9_move s_X1_moved
        rw [h66, hyC.2.2.2.2.2.1.1]
        have e := h_prop zt (by decide) (by decide) d5 hi hj (by decide)
        rw [show nI 3 = (3 : Int32) from rfl] at e
        rw [e]
        exact h_ret hY
      · show s_X10_move Y _ 140 (nI i) (nI j) = _
        have h0 := congrFun (hmd 0 (by decide))
        unfold s_X10_move
        rw [h0 33, e12, if_neg (fun c => (m_ix (by omega)).mp c ⟨i, hi, rfl⟩), if_neg (fun c => (m_up2 (c := 2) (v := 2) rfl (by decide)).mp c ⟨j, hj, rfl⟩), e32, l32, nI_3a, nI_add, if_pos (j_g_nI (by omega) (by omega)), nI_clamp (by omega), hmd 18 (by decide), e13 i hi j hj]
        rfl
    · refine AG.bad (k := 2) (by decide) ?_ ?_ hL'
      · unfold s_L_move s_X9_move s_X1_moved
        rw [h66, hyC.2.2.2.2.2.1.1]
        have e := h_propW zt (by decide) d5 hi (n := 3) (by decide) hw
        rw [show nI 3 = (3 : Int32) from rfl] at e
        rw [e]
        rfl
      · show s_X10_move Y M 140 (nI i) w = some (0, _)
        unfold s_X10_move
        rw [e12, if_neg (fun c => (m_ix (by omega)).mp c ⟨i, hi, rfl⟩), if_pos ((m_up2 (c := 2) (v := 2) rfl (by decide)).mpr hw)]
        rfl
  · refine AG.bad (k := 1) (by decide) ?_ ?_ hL'
    · unfold s_L_move s_X9_move s_X1_moved
      rw [h66, hyC.2.2.2.2.2.1.1, h_propI zt (by decide) d5 hq]
      rfl
    · show s_X10_move Y M 140 p w = some (0, _)
      unfold s_X10_move
      rw [e12, if_pos ((m_ix (by omega)).mpr hq)]
      rfl
theorem h_19 {p : Int32} : (p < (1 : Int32) ∨ ¬ (p ≤ (9 : Int32))) ↔ ¬ ∃ n : Nat, 1 ≤ n ∧ n ≤ 9 ∧ p = nI n := by
  constructor
  · rintro h ⟨n, h1, h2, rfl⟩
    rcases h with h | h
    · rw [show (1 : Int32) = nI 1 from rfl] at h
      exact nI_nlt h1 (by omega) h
    · exact h (by rw [show (9 : Int32) = nI 9 from rfl]; exact nI_le h2 (by omega))
  · intro h
    by_cases c : p < 1
    · exact Or.inl c
    · have c0 : ¬ p < 0 := fun x => c (Int32.lt_of_lt_of_le x (by decide))
      obtain ⟨n, hn, rfl⟩ := nI_of c0
      refine Or.inr (fun x => h ⟨n, ?_, ?_, rfl⟩)
      · rw [show (1 : Int32) = nI 1 from rfl, nI_ltI hn (by omega)] at c
        omega
      · rw [show (9 : Int32) = nI 9 from rfl, nI_leI hn (by omega)] at x
        exact x
theorem h_19m {p : Int32} : s_X10_in Y M p 1 9 = 0 ↔ ¬ ∃ n : Nat, 1 ≤ n ∧ n ≤ 9 ∧ p = nI n := by
  rw [m_in, ← h_19]
  constructor
  · rintro (c | c)
    · exact Or.inl c
    · exact Or.inr (Int32.not_le.mpr c)
  · rintro (c | c)
    · exact Or.inl c
    · exact Or.inr (Int32.not_le.mp c)
theorem r_findMoves (hY : YH Y) (hL : RLL M) (p : Int32) : AG (s_L_findMoves Y M 0 p 174) (fun N => s_X10_findMoves Y N 140 p) := by
  have hL' := hL
  have hyM := hY.2.2.2.2.2.2.2.2.2.1
  have e1 : j_rf Y 140 1 = 140 + 1 := (hyM (1, 1, 96) (by decide)).1
  have l1 : j_ln Y (140 + 1) = 96 := (hyM (1, 1, 96) (by decide)).2
  have e2 : j_rf Y 140 2 = 140 + 2 := (hyM (2, 2, 4) (by decide)).1
  have l2 : j_ln Y (140 + 2) = 4 := (hyM (2, 2, 4) (by decide)).2
  obtain ⟨a0, a1, a2, a3, a4, a5, a6, a7, a8, a9⟩ := hL
  have a1' := a1
  have a3' := a3
  obtain ⟨ds, hS, hD⟩ := a1'
  obtain ⟨hs, hH, hHm⟩ := a3'
  have a7' := a7
  obtain ⟨mk, xs, ys, P, anc, mv, hC, hCm⟩ := a7'
  have hyC := hY.2.2.2.2.2.2.1.2
  have h66 : j_rf Y 0 6 = 66 := hY.2.2.2.2.2.2.1.1
  have hreq : s_X9_requireComparison Y M 0 = if mk then some (Sum.inr M) else some (Sum.inl (1, M)) := by
    unfold s_X9_requireComparison s_X1_exists
    rw [h66, hC.1]
    cases mk <;> rfl
  have hz : j_z (M 140 25) = if mk then 1 else 0 := by
    rw [hCm.1]
    cases mk <;> rfl
  by_cases hp : ∃ n : Nat, 1 ≤ n ∧ n ≤ 9 ∧ p = nI n
  · obtain ⟨mn, h1, h2, rfl⟩ := hp
    cases mk with
    | false =>
      refine AG.bad (k := 2) (by decide) ?_ ?_ hL'
      · unfold s_L_findMoves s_X9_findMoves
        rw [if_neg (fun c => h_19.mp c ⟨mn, h1, h2, rfl⟩), hreq]
        rfl
      · show s_X10_findMoves Y M 140 (nI mn) = some (0, _)
        unfold s_X10_findMoves
        rw [if_neg (fun c => h_19m.mp c ⟨mn, h1, h2, rfl⟩), hz]
        rfl
    | true =>
      obtain ⟨M1, b1, b2, b3⟩ := p_searchMoves (o := 66) hyC h1 h2 hC
      obtain ⟨n, hn⟩ : ∃ z, z = (q_mv xs ys mn 24 (q_fa P) (q_fb P) []).length := ⟨_, rfl⟩
      have hCF : CF [(66, 92)] [] M (j_up M1 174 0 (nI n)) := (CF.of (b2.mono (lo' := 66) (hi' := 92) (by decide) (by decide)) (by decide) (by decide)).trans CF.out
      have hmd : ∀ t, t < 34 → j_up M1 174 0 (nI n) (140 + t) = M (140 + t) := fun t ht => hCF.md (by decide) ht
      obtain ⟨M4, c1, c2, c3, c4⟩ := m_findMoves hyM (hCm.q (fun t ht => hmd t (by revert ht; revert t; decide)) (fun k _ => congrFun (hmd 0 (by decide)) k)) h1 h2
      rw [← hn] at c1 b1
      have fo : JFr 174 175 M1 (j_up M1 174 0 (nI n)) := JFr.up
      have fm : JFr 140 174 _ M4 := c2.jfr (by decide)
      refine AG.ok (v := nI n) (M0 := M1) ?_ c1 c3 c2 (by decide) ⟨a0.k hCF c2 (by decide), a1.k hCF c2 (by decide), a2.k hCF c2 (by decide), a3.k hCF c2 (by decide), a4.k hCF c2 (by decide), a5.k hCF c2 (by decide), a6.k hCF c2 (by decide), ⟨_, _, _, _, _, _, (b3.frame fo (by decide)).frame fm (by decide), c4⟩, a8.k hCF c2 (by decide), a9.k hCF c2 (by decide)⟩
      unfold s_L_findMoves s_X9_findMoves
      rw [if_neg (fun c => h_19.mp c ⟨mn, h1, h2, rfl⟩), hreq, if_pos rfl]
      dsimp only [Option.bind]
      rw [h66, b1]
      exact h_ret hY
  · refine AG.bad (k := 1) (by decide) ?_ ?_ hL'
    · unfold s_L_findMoves s_X9_findMoves
      rw [if_pos (h_19.mpr hp)]
      rfl
    · show s_X10_findMoves Y M 140 p = some (0, _)
      unfold s_X10_findMoves
      rw [if_pos (h_19m.mpr hp)]
      rfl
theorem r_setShrinking (hL : RLL M) {b : Int32} (hb : b = 0 ∨ b = 1) : ∃ v M1 M2, s_X9_setShrinking Y M 0 b = some (v, M1) ∧ s_X10_setShrinking Y M1 140 b = some (v, M2) ∧ RLL M2 := by
  obtain ⟨a0, a1, a2, a3, a4, a5, a6, a7, a8, a9⟩ := hL
  have hCF : CF [] [12] M (j_up M 0 12 b) := CF.root (by decide)
  have f1 : MF 140 [] [4] (j_up M 0 12 b) (j_up (j_up M 0 12 b) 140 4 b) := MF.uf
  have f2 : MF 140 [] [0] (j_up (j_up M 0 12 b) 140 4 b) (j_up (j_up (j_up M 0 12 b) 140 4 b) 140 0 0) := MF.uf
  have c2 : MF 140 [] [0, 4] (j_up M 0 12 b) (j_up (j_up (j_up M 0 12 b) 140 4 b) 140 0 0) := (f1.mono (by simp) (by simp)).trans (f2.mono (by simp) (by simp))
  obtain ⟨z1, z2, z3, z4⟩ := a0
  have hmd : ∀ t, t < 34 → j_up M 0 12 b (140 + t) = M (140 + t) := fun t ht => hCF.md (by decide) ht
  have x12 : (j_up (j_up (j_up M 0 12 b) 140 4 b) 140 0 0) 0 12 = b := by
    rw [c2.cls (by decide) (Or.inl (by decide)), j_up_s]
  have x9 : (j_up (j_up (j_up M 0 12 b) 140 4 b) 140 0 0) 0 9 = M 0 9 := by
    rw [c2.cls (by decide) (Or.inl (by decide))]
    exact hCF.2 9 (by decide)
  have x4 : (j_up (j_up (j_up M 0 12 b) 140 4 b) 140 0 0) 140 4 = b := by
    rw [j_up_k (by decide), j_up_s]
  have x3 : (j_up (j_up (j_up M 0 12 b) 140 4 b) 140 0 0) 140 3 = M 140 3 := by
    rw [c2.fld (by decide) (by decide)]
    exact congrFun (hmd 0 (by decide)) 3
  refine ⟨j_z (M 0 12), j_up M 0 12 b, _, ?_, ?_, ⟨⟨by rw [x9, x3]; exact z1, by rw [x9]; exact z2, x12.trans x4.symm, by rw [x12]; exact hb⟩, a1.k hCF c2 (by decide), a2.k hCF c2 (by decide), a3.k hCF c2 (by decide), a4.k hCF c2 (by decide), a5.k hCF c2 (by decide), a6.k hCF c2 (by decide), a7.k hCF c2 (by decide), a8.k hCF c2 (by decide), a9.k hCF c2 (by decide)⟩⟩
  · unfold s_X9_setShrinking
    dsimp only [lt_]
    rw [if_pos hb]
  · have e4 : (j_up M 0 12 b) 140 4 = M 0 12 := by
      rw [z3]
      exact congrFun (hmd 0 (by decide)) 4
    unfold s_X10_setShrinking
    dsimp only [lt_]
    rw [e4]
    rcases z4 with z4 | z4
    · rw [z4]
      rcases hb with rfl | rfl <;> rfl
    · rw [z4]
      rcases hb with rfl | rfl <;> rfl
theorem r_merge (hY : YH Y) (hL : RLL M) (p q s : Int32) : AG (s_L_merge Y M 0 p q s 174) (fun N => s_X10_merge Y N 140 p q s) := by
  have hL' := hL
  have hyM := hY.2.2.2.2.2.2.2.2.2.1
  have e1 : j_rf Y 140 1 = 140 + 1 := (hyM (1, 1, 96) (by decide)).1
  have l1 : j_ln Y (140 + 1) = 96 := (hyM (1, 1, 96) (by decide)).2
  have e2 : j_rf Y 140 2 = 140 + 2 := (hyM (2, 2, 4) (by decide)).1
  have l2 : j_ln Y (140 + 2) = 4 := (hyM (2, 2, 4) (by decide)).2
  obtain ⟨a0, a1, a2, a3, a4, a5, a6, a7, a8, a9⟩ := hL
  have a1' := a1
  have a3' := a3
  obtain ⟨ds, hS, hD⟩ := a1'
  obtain ⟨hs, hH, hHm⟩ := a3'
  by_cases hp : ∃ r : Nat, r < 4 ∧ p = nI r
  · obtain ⟨a, ha, rfl⟩ := hp
    by_cases hq : ∃ r : Nat, r < 4 ∧ q = nI r
    · obtain ⟨b, hb, rfl⟩ := hq
      by_cases hs9 : ∃ r : Nat, r < 4 ∧ s = nI r
      · obtain ⟨c, hc, rfl⟩ := hs9
        have ya := hY.1.2.2.2.2.2 a ha
        have yb := hY.1.2.2.2.2.2 b hb
        have yc := hY.1.2.2.2.2.2 c hc
        obtain ⟨mk0, bs0, ls0, rs0, cs0, cf0, k1, k2⟩ := a8
        obtain ⟨M0, M1, b0, b1, b2, b3, b4⟩ := p_mgMake (o := 92) hY.2.2.2.2.2.2.2.1.2 k1 ya.2 yb.2 yc.2 (by omega) (by omega) (by omega) (hS a ha) (hS b hb) (hS c hc) (M 0 9) (j_z (M 0 12))
        obtain ⟨z1, z2, z3, z4⟩ := a0
        have hsh : decide (j_z (M 0 12) ≠ 0) = decide (M 0 12 ≠ 0) := by rcases z4 with z | z <;> rw [z] <;> rfl
        rw [hsh] at b1 b4
        obtain ⟨n, hn⟩ : ∃ z, z = (k_cr 0 (q_mgs (ds a) (ds b) (ds c) (decide (M 0 9 = 1)) (decide (M 0 12 ≠ 0)))).length := ⟨_, rfl⟩
        have hCF : CF [(92, 127)] [] M (j_up M1 174 0 (nI n)) := (CF.of b3 (by decide) (by decide)).trans CF.out
        have hmd : ∀ t, t < 34 → j_up M1 174 0 (nI n) (140 + t) = M (140 + t) := fun t ht => hCF.md (by decide) ht
        have hmo : j_up M1 174 0 (nI n) 140 3 = M 0 9 := (congrFun (hmd 0 (by decide)) 3).trans z1.symm
        have hso : j_up M1 174 0 (nI n) 140 4 = M 0 12 := (congrFun (hmd 0 (by decide)) 4).trans z3.symm
        obtain ⟨M4, c1, c2, c3, c4⟩ := m_merge hyM (hD.eq (hmd 1 (by decide)) (hmd 2 (by decide))) ha hb hc hmo hso
        rw [← hn] at c1 b1
        have fo : JFr 174 175 M1 (j_up M1 174 0 (nI n)) := JFr.up
        have fm : JFr 140 174 _ M4 := c2.jfr (by decide)
        have a0 : R0 M := ⟨z1, z2, z3, z4⟩
        refine AG.ok (v := nI n) (M0 := M1) ?_ c1 c3 c2 (by decide) ⟨a0.k hCF c2 (by decide), a1.k hCF c2 (by decide), a2.k hCF c2 (by decide), a3.k hCF c2 (by decide), a4.k hCF c2 (by decide), a5.k hCF c2 (by decide), a6.k hCF c2 (by decide), a7.k hCF c2 (by decide), ⟨_, _, _, _, _, _, (b4.frame fo (by decide)).frame fm (by decide), c4⟩, a9.k hCF c2 (by decide)⟩
        unfold s_L_merge s_X9_merge
        rw [h_doc hY ha]
        dsimp only [Option.bind]
        rw [h_doc hY hb]
        dsimp only
        rw [h_doc hY hc]
        dsimp only
        rw [hY.2.2.2.2.2.2.2.1.1, b0]
        dsimp only
        rw [b2 0 (by decide), b1]
        exact h_ret hY
      · refine AG.bad (k := 1) (by decide) ?_ ?_ hL'
        · unfold s_L_merge s_X9_merge
          rw [h_doc hY ha]
          dsimp only [Option.bind]
          rw [h_doc hY hb]
          dsimp only
          rw [h_docN hs9]
          rfl
        · show s_X10_merge Y M 140 (nI a) (nI b) s = some (0, _)
          unfold s_X10_merge
          rw [if_pos (Or.inr (Or.inr (h_bad hs9)))]
          rfl
    · refine AG.bad (k := 1) (by decide) ?_ ?_ hL'
      · unfold s_L_merge s_X9_merge
        rw [h_doc hY ha]
        dsimp only [Option.bind]
        rw [h_docN hq]
        rfl
      · show s_X10_merge Y M 140 (nI a) q s = some (0, _)
        unfold s_X10_merge
        rw [if_pos (Or.inr (Or.inl (h_bad hq)))]
        rfl
  · refine AG.bad (k := 1) (by decide) ?_ ?_ hL'
    · unfold s_L_merge s_X9_merge
      rw [h_docN hp]
      rfl
    · show s_X10_merge Y M 140 p q s = some (0, _)
      unfold s_X10_merge
      rw [if_pos (Or.inl (h_bad hp))]
      rfl
theorem r_chunks (hY : YH Y) (hL : RLL M) : AG (s_L_chunks Y M 0  174) (fun N => some (s_X10_chunks Y N 140 )) := by
  have hL' := hL
  have hyM := hY.2.2.2.2.2.2.2.2.2.1
  have e1 : j_rf Y 140 1 = 140 + 1 := (hyM (1, 1, 96) (by decide)).1
  have l1 : j_ln Y (140 + 1) = 96 := (hyM (1, 1, 96) (by decide)).2
  have e2 : j_rf Y 140 2 = 140 + 2 := (hyM (2, 2, 4) (by decide)).1
  have l2 : j_ln Y (140 + 2) = 4 := (hyM (2, 2, 4) (by decide)).2
  obtain ⟨a0, a1, a2, a3, a4, a5, a6, a7, a8, a9⟩ := hL
  have a1' := a1
  have a3' := a3
  obtain ⟨ds, hS, hD⟩ := a1'
  obtain ⟨hs, hH, hHm⟩ := a3'
  have a8' := a8
  obtain ⟨mk, bs, ls, rs, cs, cf, hG, hGm⟩ := a8'
  have hyG := hY.2.2.2.2.2.2.2.1.2
  have h92 : j_rf Y 0 7 = 92 := hY.2.2.2.2.2.2.2.1.1
  have hreq : s_X9_requireMerge Y M 0 = if mk then some (Sum.inr M) else some (Sum.inl (1, M)) := by
    unfold s_X9_requireMerge s_X5_exists
    rw [h92, hG.1]
    cases mk <;> rfl
  have hz : j_z (M 140 38) = if mk then 1 else 0 := by
    rw [hGm.1]
    cases mk <;> rfl
  cases mk with
  | false =>
    refine AG.bad (k := 1) (by decide) ?_ ?_ hL'
    · unfold s_L_chunks s_X9_chunks
      rw [hreq]
      rfl
    · show some (s_X10_chunks Y M 140 ) = some (0, _)
      unfold s_X10_chunks
      rw [hz]
      rfl
  | true =>
    obtain ⟨L1, L2, L3, hV, d5, d6, d7⟩ := hG.2.2.2.2 rfl
    obtain ⟨v1, v2, v3, v4, v5, v6⟩ := hV
    obtain ⟨-, e2', e3, e4, e5, e6, e7, e8, e9, e10, e11⟩ := hGm.2 rfl
    have hlt := k_tb_len (cf := cf) cs 0
    · skip
      have hCF : CF [] [] M (j_up M 174 0 (nI cs.length)) := CF.out
      have f0 : MF 140 [] [0] (j_up M 174 0 (nI cs.length)) (j_up (j_up M 174 0 (nI cs.length)) 140 0 0) := MF.uf
      have hmd : ∀ t, t < 34 → j_up M 174 0 (nI cs.length) (140 + t) = M (140 + t) := fun t ht => hCF.md (by decide) ht
      refine AG.ok (v := (nI cs.length)) (M0 := M) ?_ ?_ j_up_s f0 (by decide) (hL'.k hCF f0 (by decide) (by decide) (by decide) (by decide) (by decide) (by decide) (by decide) (by decide))
      · unfold s_L_chunks s_X9_chunks s_X5_parts
        rw [hreq, h92, hyG.2.2.2.2.2.1.1, if_pos rfl]
        dsimp only [Option.bind]
        rw [p_rows d5, hlt]
        exact h_ret hY
      · show some (s_X10_chunks Y _ 140) = _
        have h0 := congrFun (hmd 0 (by decide))
        unfold s_X10_chunks
        rw [h0 38, hz, if_neg (by decide), h0 48, e8]
        rfl
theorem r_chunk (hY : YH Y) (hL : RLL M) (p w : Int32) : AG (s_L_chunk Y M 0 p w 174) (fun N => s_X10_chunk Y N 140 p w) := by
  have hL' := hL
  have hyM := hY.2.2.2.2.2.2.2.2.2.1
  have e1 : j_rf Y 140 1 = 140 + 1 := (hyM (1, 1, 96) (by decide)).1
  have l1 : j_ln Y (140 + 1) = 96 := (hyM (1, 1, 96) (by decide)).2
  have e2 : j_rf Y 140 2 = 140 + 2 := (hyM (2, 2, 4) (by decide)).1
  have l2 : j_ln Y (140 + 2) = 4 := (hyM (2, 2, 4) (by decide)).2
  obtain ⟨a0, a1, a2, a3, a4, a5, a6, a7, a8, a9⟩ := hL
  have a1' := a1
  have a3' := a3
  obtain ⟨ds, hS, hD⟩ := a1'
  obtain ⟨hs, hH, hHm⟩ := a3'
  have a8' := a8
  obtain ⟨mk, bs, ls, rs, cs, cf, hG, hGm⟩ := a8'
  have hyG := hY.2.2.2.2.2.2.2.1.2
  have h92 : j_rf Y 0 7 = 92 := hY.2.2.2.2.2.2.2.1.1
  have hreq : s_X9_requireMerge Y M 0 = if mk then some (Sum.inr M) else some (Sum.inl (1, M)) := by
    unfold s_X9_requireMerge s_X5_exists
    rw [h92, hG.1]
    cases mk <;> rfl
  have hz : j_z (M 140 38) = if mk then 1 else 0 := by
    rw [hGm.1]
    cases mk <;> rfl
  cases mk with
  | false =>
    refine AG.bad (k := 1) (by decide) ?_ ?_ hL'
    · unfold s_L_chunk s_X9_chunk
      rw [hreq]
      rfl
    · show s_X10_chunk Y M 140 p w = some (0, _)
      unfold s_X10_chunk
      rw [hz]
      rfl
  | true =>
    obtain ⟨L1, L2, L3, hV, d5, d6, d7⟩ := hG.2.2.2.2 rfl
    obtain ⟨v1, v2, v3, v4, v5, v6⟩ := hV
    obtain ⟨-, e2', e3, e4, e5, e6, e7, e8, e9, e10, e11⟩ := hGm.2 rfl
    have hlt := k_tb_len (cf := cf) cs 0
    have e47 : j_rf Y 140 47 = 140 + 27 := (hyM (47, 27, 700) (by decide)).1
    have l47 : j_ln Y (140 + 27) = 700 := (hyM (47, 27, 700) (by decide)).2
    have zt := hyG.2.2.2.2.2.1.2
    by_cases hq : ∃ i : Nat, i < cs.length ∧ p = nI i
    · obtain ⟨i, hi, rfl⟩ := hq
      by_cases hw : ∃ j : Nat, j < 7 ∧ w = nI j
      · obtain ⟨j, hj, rfl⟩ := hw
        have hci : cs[i]? = some cs[i] := List.getElem?_eq_getElem hi
        have tv : t_at (k_tb cf 0 cs) i j = M (140 + 27) (7 * i + j) := by
          rw [← e9 i (by rw [List.length_map]; exact hi) j hj]
          unfold t_at
          rw [k_tb_get cs 0 i cs[i] hci, List.getElem?_map, hci]
          show ((k_r8 cs[i] _)[j]?).getD (-1) = ((k_row cs[i])[j]?).getD (-1)
          rcases (show j = 0 ∨ j = 1 ∨ j = 2 ∨ j = 3 ∨ j = 4 ∨ j = 5 ∨ j = 6 by omega) with e | e | e | e | e | e | e <;> subst e <;> rfl
        have hCF : CF [] [] M (j_up M 174 0 (t_at (k_tb cf 0 cs) i j)) := CF.out
        have f0 : MF 140 [] [0] (j_up M 174 0 (t_at (k_tb cf 0 cs) i j)) (j_up (j_up M 174 0 (t_at (k_tb cf 0 cs) i j)) 140 0 0) := MF.uf
        have hmd : ∀ t, t < 34 → j_up M 174 0 (t_at (k_tb cf 0 cs) i j) (140 + t) = M (140 + t) := fun t ht => hCF.md (by decide) ht
        refine AG.ok (v := (t_at (k_tb cf 0 cs) i j)) (M0 := M) ?_ ?_ j_up_s f0 (by decide) (hL'.k hCF f0 (by decide) (by decide) (by decide) (by decide) (by decide) (by decide) (by decide) (by decide))
        · unfold s_L_chunk s_X9_chunk s_X5_parts
          rw [hreq, h92, hyG.2.2.2.2.2.1.1, if_pos rfl]
          dsimp only [Option.bind]
          have e := h_prop zt (by decide) (by decide) d5 (by rw [hlt]; exact hi) hj (by decide)
          rw [show nI 7 = (7 : Int32) from rfl] at e
          rw [e]
          exact h_ret hY
        · show s_X10_chunk Y _ 140 (nI i) (nI j) = _
          have h0 := congrFun (hmd 0 (by decide))
          unfold s_X10_chunk
          rw [h0 38, hz, if_neg (by decide), h0 48, e8, if_neg (fun c => (m_ix (by omega)).mp c ⟨i, hi, rfl⟩), if_neg (fun c => (m_up2 (c := 6) (v := 6) rfl (by decide)).mp c ⟨j, hj, rfl⟩), e47, l47, nI_7a, nI_add, if_pos (j_g_nI (by omega) (by omega)), nI_clamp (by omega), hmd 27 (by decide), ← tv]
          rfl
      · refine AG.bad (k := 3) (by decide) ?_ ?_ hL'
        · unfold s_L_chunk s_X9_chunk s_X5_parts
          rw [hreq, h92, hyG.2.2.2.2.2.1.1, if_pos rfl]
          dsimp only [Option.bind]
          have e := h_propW zt (by decide) d5 (i := i) (by rw [hlt]; exact hi) (n := 7) (by decide) hw
          rw [show nI 7 = (7 : Int32) from rfl] at e
          rw [e]
          rfl
        · show s_X10_chunk Y M 140 (nI i) w = some (0, _)
          unfold s_X10_chunk
          rw [hz, if_neg (by decide), e8, if_neg (fun c => (m_ix (by omega)).mp c ⟨i, hi, rfl⟩), if_pos ((m_up2 (c := 6) (v := 6) rfl (by decide)).mpr hw)]
          rfl
    · refine AG.bad (k := 2) (by decide) ?_ ?_ hL'
      · unfold s_L_chunk s_X9_chunk s_X5_parts
        rw [hreq, h92, hyG.2.2.2.2.2.1.1, if_pos rfl]
        dsimp only [Option.bind]
        rw [h_propI zt (by decide) d5 (by rw [hlt]; exact hq)]
        rfl
      · show s_X10_chunk Y M 140 p w = some (0, _)
        unfold s_X10_chunk
        rw [hz, if_neg (by decide), e8, if_pos ((m_ix (by omega)).mpr hq)]
        rfl
theorem r_resolve (hY : YH Y) (hL : RLL M) (p w : Int32) : AG (s_L_resolve Y M 0 p w 174) (fun N => s_X10_resolve Y N 140 p w) := by
  have hL' := hL
  have hyM := hY.2.2.2.2.2.2.2.2.2.1
  have e1 : j_rf Y 140 1 = 140 + 1 := (hyM (1, 1, 96) (by decide)).1
  have l1 : j_ln Y (140 + 1) = 96 := (hyM (1, 1, 96) (by decide)).2
  have e2 : j_rf Y 140 2 = 140 + 2 := (hyM (2, 2, 4) (by decide)).1
  have l2 : j_ln Y (140 + 2) = 4 := (hyM (2, 2, 4) (by decide)).2
  obtain ⟨a0, a1, a2, a3, a4, a5, a6, a7, a8, a9⟩ := hL
  have a1' := a1
  have a3' := a3
  obtain ⟨ds, hS, hD⟩ := a1'
  obtain ⟨hs, hH, hHm⟩ := a3'
  have a8' := a8
  obtain ⟨mk, bs, ls, rs, cs, cf, hG, hGm⟩ := a8'
  have hyG := hY.2.2.2.2.2.2.2.1.2
  have h92 : j_rf Y 0 7 = 92 := hY.2.2.2.2.2.2.2.1.1
  have hreq : s_X9_requireMerge Y M 0 = if mk then some (Sum.inr M) else some (Sum.inl (1, M)) := by
    unfold s_X9_requireMerge s_X5_exists
    rw [h92, hG.1]
    cases mk <;> rfl
  have hz : j_z (M 140 38) = if mk then 1 else 0 := by
    rw [hGm.1]
    cases mk <;> rfl
  cases mk with
  | false =>
    refine AG.bad (k := 1) (by decide) ?_ ?_ hL'
    · unfold s_L_resolve s_X9_resolve
      rw [hreq]
      rfl
    · show s_X10_resolve Y M 140 p w = some (0, _)
      unfold s_X10_resolve
      rw [hz]
      rfl
  | true =>
    obtain ⟨L1, L2, L3, hV, d5, d6, d7⟩ := hG.2.2.2.2 rfl
    obtain ⟨v1, v2, v3, v4, v5, v6⟩ := hV
    obtain ⟨-, e2', e3, e4, e5, e6, e7, e8, e9, e10, e11⟩ := hGm.2 rfl
    have hlt := k_tb_len (cf := cf) cs 0
    have zt := hyG.2.2.2.2.2.2.1.2
    have hhc : s_X5_hasConflict Y M 92 p = 0 ↔ ¬ ∃ i : Nat, i < (k_cr 0 cs).length ∧ p = nI i := by
      unfold s_X5_hasConflict
      rw [hyG.2.2.2.2.2.2.1.1, h_has zt d6, List.length_map]
    by_cases hq : ∃ i : Nat, i < (k_cr 0 cs).length ∧ p = nI i
    · have hq' := hq
      obtain ⟨i, hi, rfl⟩ := hq
      by_cases hw : ∃ j : Nat, j < 5 ∧ w = nI j
      · have hw' := hw
        obtain ⟨j, hj, rfl⟩ := hw
        have hx : (k_cr 0 cs)[i]? = some (k_cr 0 cs)[i] := List.getElem?_eq_getElem hi
        obtain ⟨x, hx9⟩ : ∃ z, z = (k_cr 0 cs)[i] := ⟨_, rfl⟩
        rw [← hx9] at hx
        obtain ⟨r, c, g1, g2, g3⟩ := k_cr_mem cs 0 x (by rw [hx9]; exact List.getElem_mem hi)
        rw [Nat.zero_add] at g1
        subst g1
        obtain ⟨M1, b1, b2, b3⟩ := p_choose (o := 92) hyG hG hx hj g2
        obtain ⟨n, hn⟩ : ∃ z, z = (k_out bs ls rs c (nI j)).length := ⟨_, rfl⟩
        have hCF : CF [(92, 127)] [] M (j_up M1 174 0 (nI n)) := (CF.of (b2.mono (lo' := 92) (hi' := 127) (by decide) (by decide)) (by decide) (by decide)).trans CF.out
        have hmd : ∀ t, t < 34 → j_up M1 174 0 (nI n) (140 + t) = M (140 + t) := fun t ht => hCF.md (by decide) ht
        obtain ⟨M4, c1, c2, c3, c4⟩ := m_resolve hyM (hGm.q (fun t ht => hmd t (by revert ht; revert t; decide)) (fun k _ => congrFun (hmd 0 (by decide)) k)) hx hj g2
        rw [← hn] at c1 b1
        have fo : JFr 174 175 M1 (j_up M1 174 0 (nI n)) := JFr.up
        have fm : JFr 140 174 _ M4 := c2.jfr (by decide)
        refine AG.ok (v := nI n) (M0 := M1) ?_ c1 c3 c2 (by decide) ⟨a0.k hCF c2 (by decide), a1.k hCF c2 (by decide), a2.k hCF c2 (by decide), a3.k hCF c2 (by decide), a4.k hCF c2 (by decide), a5.k hCF c2 (by decide), a6.k hCF c2 (by decide), a7.k hCF c2 (by decide), ⟨_, _, _, _, _, _, (b3.frame fo (by decide)).frame fm (by decide), c4⟩, a9.k hCF c2 (by decide)⟩
        unfold s_L_resolve s_X9_resolve
        rw [hreq, if_pos rfl]
        dsimp only [Option.bind]
        rw [h92, if_neg (fun x => hhc.mp x hq'), if_neg (fun x => (h_le2 (c := 4) (v := 4) rfl (by decide)).mp x hw'), b1]
        exact h_ret hY
      · refine AG.bad (k := 3) (by decide) ?_ ?_ hL'
        · unfold s_L_resolve s_X9_resolve
          rw [hreq, if_pos rfl]
          dsimp only [Option.bind]
          rw [h92, if_neg (fun x => hhc.mp x hq'), if_pos ((h_le2 (c := 4) (v := 4) rfl (by decide)).mpr hw)]
          rfl
        · show s_X10_resolve Y M 140 (nI i) w = some (0, _)
          unfold s_X10_resolve
          rw [hz, if_neg (by decide), e10, if_neg (fun c => (m_ix (by omega)).mp c ⟨i, hi, rfl⟩), if_pos ((m_up2 (c := 4) (v := 4) rfl (by decide)).mpr hw)]
          rfl
    · refine AG.bad (k := 2) (by decide) ?_ ?_ hL'
      · unfold s_L_resolve s_X9_resolve
        rw [hreq, if_pos rfl]
        dsimp only [Option.bind]
        rw [h92, if_pos (hhc.mpr hq)]
        rfl
      · show s_X10_resolve Y M 140 p w = some (0, _)
        unfold s_X10_resolve
        rw [hz, if_neg (by decide), e10, if_pos ((m_ix (by omega)).mpr hq)]
        rfl
theorem r_unresolved (hY : YH Y) (hL : RLL M) : AG (s_L_unresolved Y M 0  174) (fun N => s_X10_unresolved Y N 140 ) := by
  have hL' := hL
  have hyM := hY.2.2.2.2.2.2.2.2.2.1
  have e1 : j_rf Y 140 1 = 140 + 1 := (hyM (1, 1, 96) (by decide)).1
  have l1 : j_ln Y (140 + 1) = 96 := (hyM (1, 1, 96) (by decide)).2
  have e2 : j_rf Y 140 2 = 140 + 2 := (hyM (2, 2, 4) (by decide)).1
  have l2 : j_ln Y (140 + 2) = 4 := (hyM (2, 2, 4) (by decide)).2
  obtain ⟨a0, a1, a2, a3, a4, a5, a6, a7, a8, a9⟩ := hL
  have a1' := a1
  have a3' := a3
  obtain ⟨ds, hS, hD⟩ := a1'
  obtain ⟨hs, hH, hHm⟩ := a3'
  have a8' := a8
  obtain ⟨mk, bs, ls, rs, cs, cf, hG, hGm⟩ := a8'
  have hyG := hY.2.2.2.2.2.2.2.1.2
  have h92 : j_rf Y 0 7 = 92 := hY.2.2.2.2.2.2.2.1.1
  have hreq : s_X9_requireMerge Y M 0 = if mk then some (Sum.inr M) else some (Sum.inl (1, M)) := by
    unfold s_X9_requireMerge s_X5_exists
    rw [h92, hG.1]
    cases mk <;> rfl
  have hz : j_z (M 140 38) = if mk then 1 else 0 := by
    rw [hGm.1]
    cases mk <;> rfl
  cases mk with
  | false =>
    refine AG.bad (k := 1) (by decide) ?_ ?_ hL'
    · unfold s_L_unresolved s_X9_unresolved
      rw [hreq]
      rfl
    · show s_X10_unresolved Y M 140  = some (0, _)
      unfold s_X10_unresolved
      rw [hz]
      rfl
  | true =>
    obtain ⟨L1, L2, L3, hV, d5, d6, d7⟩ := hG.2.2.2.2 rfl
    obtain ⟨v1, v2, v3, v4, v5, v6⟩ := hV
    obtain ⟨-, e2', e3, e4, e5, e6, e7, e8, e9, e10, e11⟩ := hGm.2 rfl
    have hlt := k_tb_len (cf := cf) cs 0
    · skip
      have hCF : CF [] [] M (j_up M 174 0 (nI (k_op cf (k_cr 0 cs)))) := CF.out
      have f0 : MF 140 [] [0] (j_up M 174 0 (nI (k_op cf (k_cr 0 cs)))) (j_up (j_up M 174 0 (nI (k_op cf (k_cr 0 cs)))) 140 0 0) := MF.uf
      have hmd : ∀ t, t < 34 → j_up M 174 0 (nI (k_op cf (k_cr 0 cs))) (140 + t) = M (140 + t) := fun t ht => hCF.md (by decide) ht
      refine AG.ok (v := (nI (k_op cf (k_cr 0 cs)))) (M0 := M) ?_ ?_ j_up_s f0 (by decide) (hL'.k hCF f0 (by decide) (by decide) (by decide) (by decide) (by decide) (by decide) (by decide) (by decide))
      · unfold s_L_unresolved s_X9_unresolved
        rw [hreq, h92, if_pos rfl]
        dsimp only [Option.bind]
        rw [p_openConflicts (o := 92) hyG hG]
        exact h_ret hY
      · show s_X10_unresolved Y _ 140 = _
        have h0 := congrFun (hmd 0 (by decide))
        unfold s_X10_unresolved
        rw [h0 38, hz, if_neg (by decide), m_openConflicts hyM (hGm.q (fun t ht => hmd t (by revert ht; revert t; decide)) (fun k _ => h0 k))]
        rfl
theorem r_mergedLength (hY : YH Y) (hL : RLL M) : AG (s_L_mergedLength Y M 0  174) (fun N => s_X10_mergedLength Y N 140 ) := by
  have hL' := hL
  have hyM := hY.2.2.2.2.2.2.2.2.2.1
  have e1 : j_rf Y 140 1 = 140 + 1 := (hyM (1, 1, 96) (by decide)).1
  have l1 : j_ln Y (140 + 1) = 96 := (hyM (1, 1, 96) (by decide)).2
  have e2 : j_rf Y 140 2 = 140 + 2 := (hyM (2, 2, 4) (by decide)).1
  have l2 : j_ln Y (140 + 2) = 4 := (hyM (2, 2, 4) (by decide)).2
  obtain ⟨a0, a1, a2, a3, a4, a5, a6, a7, a8, a9⟩ := hL
  have a1' := a1
  have a3' := a3
  obtain ⟨ds, hS, hD⟩ := a1'
  obtain ⟨hs, hH, hHm⟩ := a3'
  have a8' := a8
  obtain ⟨mk, bs, ls, rs, cs, cf, hG, hGm⟩ := a8'
  have hyG := hY.2.2.2.2.2.2.2.1.2
  have h92 : j_rf Y 0 7 = 92 := hY.2.2.2.2.2.2.2.1.1
  have hreq : s_X9_requireMerge Y M 0 = if mk then some (Sum.inr M) else some (Sum.inl (1, M)) := by
    unfold s_X9_requireMerge s_X5_exists
    rw [h92, hG.1]
    cases mk <;> rfl
  have hz : j_z (M 140 38) = if mk then 1 else 0 := by
    rw [hGm.1]
    cases mk <;> rfl
  cases mk with
  | false =>
    refine AG.bad (k := 1) (by decide) ?_ ?_ hL'
    · unfold s_L_mergedLength s_X9_mergedLength
      rw [hreq]
      rfl
    · show s_X10_mergedLength Y M 140  = some (0, _)
      unfold s_X10_mergedLength
      rw [hz]
      rfl
  | true =>
    obtain ⟨L1, L2, L3, hV, d5, d6, d7⟩ := hG.2.2.2.2 rfl
    obtain ⟨v1, v2, v3, v4, v5, v6⟩ := hV
    obtain ⟨-, e2', e3, e4, e5, e6, e7, e8, e9, e10, e11⟩ := hGm.2 rfl
    have hlt := k_tb_len (cf := cf) cs 0
    · skip
      have hCF : CF [] [] M (j_up M 174 0 (nI (k_res bs ls rs cf 0 cs).length)) := CF.out
      have hmd : ∀ t, t < 34 → j_up M 174 0 (nI (k_res bs ls rs cf 0 cs).length) (140 + t) = M (140 + t) := fun t ht => hCF.md (by decide) ht
      have hGm1 := hGm.q (fun t ht => hmd t (by revert ht; revert t; decide)) (fun k _ => congrFun (hmd 0 (by decide)) k)
      obtain ⟨N, n1, n2, n3⟩ := m_tellMerged hyM hGm1
      have f0 : MF 140 [] [0] N (j_up N 140 0 0) := MF.uf
      have c2 : MF 140 [9] [0, 18] (j_up M 174 0 (nI (k_res bs ls rs cf 0 cs).length)) (j_up N 140 0 0) := (n2.mono (by simp) (by simp)).trans (f0.mono (by simp) (by simp))
      refine AG.ok (v := (nI (k_res bs ls rs cf 0 cs).length)) (M0 := M) ?_ ?_ j_up_s c2 (by decide) (hL'.k hCF c2 (by decide) (by decide) (by decide) (by decide) (by decide) (by decide) (by decide) (by decide))
      · unfold s_L_mergedLength s_X9_mergedLength s_X5_outcomeLines
        rw [hreq, h92, hyG.2.2.2.2.2.2.2.1, if_pos rfl]
        dsimp only [Option.bind]
        rw [p_size d7]
        exact h_ret hY
      · show s_X10_mergedLength Y _ 140 = _
        unfold s_X10_mergedLength
        rw [congrFun (hmd 0 (by decide)) 38, hz, if_neg (by decide), n1]
        dsimp only [Option.bind, lt_]
        unfold s_X10_done
        dsimp only [lt_]
        rw [n3.1]
theorem r_merged (hY : YH Y) (hL : RLL M) (p : Int32) : AG (s_L_merged Y M 0 p 174) (fun N => s_X10_merged Y N 140 p) := by
  have hL' := hL
  have hyM := hY.2.2.2.2.2.2.2.2.2.1
  have e1 : j_rf Y 140 1 = 140 + 1 := (hyM (1, 1, 96) (by decide)).1
  have l1 : j_ln Y (140 + 1) = 96 := (hyM (1, 1, 96) (by decide)).2
  have e2 : j_rf Y 140 2 = 140 + 2 := (hyM (2, 2, 4) (by decide)).1
  have l2 : j_ln Y (140 + 2) = 4 := (hyM (2, 2, 4) (by decide)).2
  obtain ⟨a0, a1, a2, a3, a4, a5, a6, a7, a8, a9⟩ := hL
  have a1' := a1
  have a3' := a3
  obtain ⟨ds, hS, hD⟩ := a1'
  obtain ⟨hs, hH, hHm⟩ := a3'
  have a8' := a8
  obtain ⟨mk, bs, ls, rs, cs, cf, hG, hGm⟩ := a8'
  have hyG := hY.2.2.2.2.2.2.2.1.2
  have h92 : j_rf Y 0 7 = 92 := hY.2.2.2.2.2.2.2.1.1
  have hreq : s_X9_requireMerge Y M 0 = if mk then some (Sum.inr M) else some (Sum.inl (1, M)) := by
    unfold s_X9_requireMerge s_X5_exists
    rw [h92, hG.1]
    cases mk <;> rfl
  have hz : j_z (M 140 38) = if mk then 1 else 0 := by
    rw [hGm.1]
    cases mk <;> rfl
  cases mk with
  | false =>
    refine AG.bad (k := 1) (by decide) ?_ ?_ hL'
    · unfold s_L_merged s_X9_merged
      rw [hreq]
      rfl
    · show s_X10_merged Y M 140 p = some (0, _)
      unfold s_X10_merged
      rw [hz]
      rfl
  | true =>
    obtain ⟨L1, L2, L3, hV, d5, d6, d7⟩ := hG.2.2.2.2 rfl
    obtain ⟨v1, v2, v3, v4, v5, v6⟩ := hV
    obtain ⟨-, e2', e3, e4, e5, e6, e7, e8, e9, e10, e11⟩ := hGm.2 rfl
    have hlt := k_tb_len (cf := cf) cs 0
    have e15 : j_rf Y 140 15 = 140 + 9 := (hyM (15, 9, 2000) (by decide)).1
    have l15 : j_ln Y (140 + 9) = 2000 := (hyM (15, 9, 2000) (by decide)).2
    have zt := hyG.2.2.2.2.2.2.2.2
    have h192 := d7.2.1
    by_cases hq : ∃ i : Nat, i < (k_res bs ls rs cf 0 cs).length ∧ p = nI i
    · obtain ⟨i, hi, rfl⟩ := hq
      have hCF : CF [] [] M (j_up M 174 0 (l_at (k_res bs ls rs cf 0 cs) (nI i))) := CF.out
      have hmd : ∀ t, t < 34 → j_up M 174 0 (l_at (k_res bs ls rs cf 0 cs) (nI i)) (140 + t) = M (140 + t) := fun t ht => hCF.md (by decide) ht
      have hGm1 := hGm.q (fun t ht => hmd t (by revert ht; revert t; decide)) (fun k _ => congrFun (hmd 0 (by decide)) k)
      obtain ⟨N, n1, n2, n3⟩ := m_tellMerged hyM hGm1
      have f0 : MF 140 [] [0] N (j_up N 140 0 0) := MF.uf
      have c2 : MF 140 [9] [0, 18] (j_up M 174 0 (l_at (k_res bs ls rs cf 0 cs) (nI i))) (j_up N 140 0 0) := (n2.mono (by simp) (by simp)).trans (f0.mono (by simp) (by simp))
      refine AG.ok (v := (l_at (k_res bs ls rs cf 0 cs) (nI i))) (M0 := M) ?_ ?_ j_up_s c2 (by decide) (hL'.k hCF c2 (by decide) (by decide) (by decide) (by decide) (by decide) (by decide) (by decide) (by decide))
      · unfold s_L_merged s_X9_merged s_X5_outcomeLines
        rw [hreq, h92, hyG.2.2.2.2.2.2.2.1, if_pos rfl]
        dsimp only [Option.bind]
        rw [if_neg (fun c => (h_has zt d7 _).mp c ⟨i, hi, rfl⟩), p_at zt d7]
        exact h_ret hY
      · show s_X10_merged Y _ 140 (nI i) = _
        unfold s_X10_merged
        rw [congrFun (hmd 0 (by decide)) 38, hz, if_neg (by decide), n1]
        dsimp only [Option.bind, lt_]
        rw [n3.1, if_neg (fun c => (m_ix (by omega)).mp c ⟨i, hi, rfl⟩), e15, l15, if_pos (j_g_nI (by omega) (by omega)), nI_clamp (by omega), n3.2.get' hi, ← l_at_nI (by omega)]
        rfl
    · obtain ⟨N, n1, n2, n3⟩ := m_tellMerged hyM hGm
      have f0 : MF 140 [] [0] N (j_up N 140 0 2) := MF.uf
      have c2 : MF 140 [9] [0, 18] M (j_up N 140 0 2) := (n2.mono (by simp) (by simp)).trans (f0.mono (by simp) (by simp))
      refine ⟨2, M, 0, j_up N 140 0 2, ?_, ?_, j_up_s, fun e => absurd e (by decide), hL'.k CF.refl c2 (by decide) (by decide) (by decide) (by decide) (by decide) (by decide) (by decide) (by decide)⟩
      · unfold s_L_merged s_X9_merged s_X5_outcomeLines
        rw [hreq, h92, hyG.2.2.2.2.2.2.2.1, if_pos rfl]
        dsimp only [Option.bind]
        rw [if_pos ((h_has zt d7 _).mpr hq)]
        rfl
      · show s_X10_merged Y M 140 p = some (0, _)
        unfold s_X10_merged
        rw [hz, if_neg (by decide), n1]
        dsimp only [Option.bind, lt_]
        rw [n3.1, if_pos ((m_ix (by omega)).mpr hq)]
        rfl
end RLG

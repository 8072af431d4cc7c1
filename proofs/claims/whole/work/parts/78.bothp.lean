/-! ===== pure: class and model together: patches, undo, save ===== -/
section RLH
variable {Y : JY} {M : JM}
theorem h_m1 (hY : YH Y) {r : Nat} (hr : r < 4) : LnAt Y (1 + 4 + 2 * r) 24 := (hY.1.2.2.2.2.2 r hr).2
theorem nI_le0 {n : Nat} (hn : n < 2 ^ 31) : nI n ≤ 0 ↔ n = 0 := by
  constructor
  · intro h
    cases n with
    | zero => rfl
    | succ n => exact absurd h (nI_nle (by omega) hn)
  · intro h
    rw [h]
    decide
theorem r_accept (hY : YH Y) (hL : RLL M) (p : Int32) : AG (s_L_accept Y M 0 p 174) (fun N => s_X10_accept Y N 140 p) := by
  have hL' := hL
  have hyM := hY.2.2.2.2.2.2.2.2.2.1
  have e1 : j_rf Y 140 1 = 140 + 1 := (hyM (1, 1, 96) (by decide)).1
  have l1 : j_ln Y (140 + 1) = 96 := (hyM (1, 1, 96) (by decide)).2
  have e2 : j_rf Y 140 2 = 140 + 2 := (hyM (2, 2, 4) (by decide)).1
  have l2 : j_ln Y (140 + 2) = 4 := (hyM (2, 2, 4) (by decide)).2
  obtain ⟨a0, a1, a2, a3, a4, a5, a6, a7, a8, a9⟩ := hL
  have a1' := a1
  have a3' := a3
  obtain ⟨ds, hS, hD⟩ := a1'
  obtain ⟨hs, hH, hHm⟩ := a3'
  have a8' := a8
  obtain ⟨mk, bs, ls, rs, cs, cf, hG, hGm⟩ := a8'
  have hyG := hY.2.2.2.2.2.2.2.1.2
  have h92 : j_rf Y 0 7 = 92 := hY.2.2.2.2.2.2.2.1.1
  have hreq : s_X9_requireMerge Y M 0 = if mk then some (Sum.inr M) else some (Sum.inl (1, M)) := by
    unfold s_X9_requireMerge s_X5_exists
    rw [h92, hG.1]
    cases mk <;> rfl
  have hz : j_z (M 140 38) = if mk then 1 else 0 := by
    rw [hGm.1]
    cases mk <;> rfl
  have e15 : j_rf Y 140 15 = 140 + 9 := (hyM (15, 9, 2000) (by decide)).1
  have l15 : j_ln Y (140 + 9) = 2000 := (hyM (15, 9, 2000) (by decide)).2
  by_cases hp : ∃ r : Nat, r < 4 ∧ p = nI r
  · obtain ⟨r, hr, rfl⟩ := hp
    have hdoc := hS r hr
    have hya := h_m1 hY hr
    cases mk with
    | false =>
      refine AG.bad (k := 2) (by decide) ?_ ?_ hL'
      · unfold s_L_accept s_X9_accept
        rw [h_doc hY hr]
        dsimp only [Option.bind]
        rw [hreq]
        rfl
      · show s_X10_accept Y M 140 (nI r) = some (0, _)
        unfold s_X10_accept
        rw [if_neg (m_isRegT hr), hz]
        rfl
    | true =>
      obtain ⟨L1, L2, L3, hV, d5, d6, d7⟩ := hG.2.2.2.2 rfl
      obtain ⟨v1, v2, v3, v4, v5, v6⟩ := hV
      have hopl := k_op_le (cf := cf) (k_cr 0 cs)
      have hop := p_openConflicts (o := 92) hyG hG
      have hopm := m_openConflicts hyM hGm
      obtain ⟨R, hR⟩ : ∃ z, z = k_res bs ls rs cf 0 cs := ⟨_, rfl⟩
      rw [← hR] at d7
      have h192 := d7.2.1
      by_cases hc : k_op cf (k_cr 0 cs) = 0
      · by_cases hl : R.length ≤ 24
        · obtain ⟨M1, b1, b2, b3⟩ := p_hsRemember hY.2.2.1.2 hH hya hdoc (by omega) hr
          obtain ⟨M2, r0, r2, r1⟩ := p_become (M := M1) hya hyG.2.2.2.2.2.2.2.2 (d7.frame b2 (by decide)) (by omega) hl
          have hCF : CF [(1, 13), (25, 48)] [] M (j_up M2 174 0 (nI R.length)) := ((CF.of b2 (by decide) (by decide)).trans (CF.of (r2.mono (lo' := 1) (hi' := 13) (by omega) (by omega)) (by decide) (by decide))).trans CF.out
          have hmd : ∀ t, t < 34 → j_up M2 174 0 (nI R.length) (140 + t) = M (140 + t) := fun t ht => hCF.md (by decide) ht
          have hGm1 := hGm.q (fun t ht => hmd t (by revert ht; revert t; decide)) (fun k _ => congrFun (hmd 0 (by decide)) k)
          have hD1 := hD.eq (hmd 1 (by decide)) (hmd 2 (by decide))
          have hHm1 := hHm.q (fun t ht => hmd t (by revert ht; revert t; decide)) (congrFun (hmd 0 (by decide)) 10)
          obtain ⟨N, n1, n2, n3⟩ := m_tellMerged hyM hGm1
          rw [← hR] at n3
          have hDN : DM N 140 ds := hD1.eq (n2.arr (t := 1) (by decide) (by decide)) (n2.arr (t := 2) (by decide) (by decide))
          obtain ⟨N2, o1, o2, o3⟩ := m_remembers hyM (hHm1.fr n2 (by decide) (by decide) (by decide)) hr (hDN.dr hr)
          have hDN2 : DM N2 140 ds := hDN.eq (o2.arr (t := 1) (by decide) (by decide)) (o2.arr (t := 2) (by decide) (by decide))
          have o18 : N2 140 18 = nI R.length := by rw [o2.fld (by decide) (by decide)]; exact n3.1
          obtain ⟨N3, x1, x2, x3⟩ := m_holds hyM hr (tq := 9) (by decide) l15 (by decide) (xs := R) (by omega) hl (n3.2.eq (o2.arr (t := 9) (by decide) (by decide))) hDN2
          have f0 : MF 140 [] [0] N3 (j_up N3 140 0 0) := MF.uf
          have c2 : MF 140 [1, 2, 4, 5, 6, 9] [0, 10, 18] (j_up M2 174 0 (nI R.length)) (j_up N3 140 0 0) := (((n2.mono (by simp) (by simp)).trans (o2.mono (by simp) (by simp))).trans (x2.mono (by simp) (by simp))).trans (f0.mono (by simp) (by simp))
          have fo : JFr 174 175 M2 (j_up M2 174 0 (nI R.length)) := JFr.up
          have fm : JFr 140 174 _ (j_up N3 140 0 0) := c2.jfr (by decide)
          refine AG.ok (v := nI R.length) (M0 := M2) ?_ ?_ j_up_s c2 (by decide) ⟨a0.k hCF c2 (by decide), ⟨_, (((hS.frame b2 (by decide)).set r2 r1).frame fo (by decide)).frame fm (by decide), x3.eq (f0.arr (t := 1) (by decide) (by decide)) (f0.arr (t := 2) (by decide) (by decide))⟩, a2.k hCF c2 (by decide), ⟨_, ((b3.frame r2 (by omega)).frame fo (by decide)).frame fm (by decide), (o3.fr x2 (by decide) (by decide) (by decide)).fr f0 (by decide) (by decide) (by decide)⟩, a4.k hCF c2 (by decide), a5.k hCF c2 (by decide), a6.k hCF c2 (by decide), a7.k hCF c2 (by decide), a8.k hCF c2 (by decide), a9.k hCF c2 (by decide)⟩
          · unfold s_L_accept s_X9_accept s_X9_changeTo s_X5_outcomeLines
            rw [h_doc hY hr]
            dsimp only [Option.bind]
            rw [hreq, if_pos rfl]
            dsimp only
            rw [h92, hop, hyG.2.2.2.2.2.2.2.1]
            dsimp only
            rw [if_pos ((nI_le0 (by omega)).mpr hc), p_size d7, if_pos (by rw [show (24 : Int32) = nI 24 from rfl]; exact nI_le hl (by omega)), hY.2.2.1.1, b1]
            dsimp only
            rw [r0]
            dsimp only
            rw [p_size r1]
            exact h_ret hY
          · show s_X10_accept Y _ 140 (nI r) = _
            unfold s_X10_accept
            rw [if_neg (m_isRegT hr), congrFun (hmd 0 (by decide)) 38, hz, if_neg (by decide), m_openConflicts hyM hGm1]
            dsimp only [Option.bind]
            rw [if_pos ((nI_le0 (by omega)).mpr hc), n1]
            dsimp only
            rw [n3.1, if_pos (by rw [show (24 : Int32) = nI 24 from rfl]; exact nI_le hl (by omega)), o1]
            dsimp only
            rw [o18, e15, x1]
            dsimp only [lt_]
            rw [x2.fld (by decide) (by decide), o18]
            rfl
        · obtain ⟨N, n1, n2, n3⟩ := m_tellMerged hyM hGm
          rw [← hR] at n3
          have f0 : MF 140 [] [0] N (j_up N 140 0 3) := MF.uf
          have c2 : MF 140 [9] [0, 18] M (j_up N 140 0 3) := (n2.mono (by simp) (by simp)).trans (f0.mono (by simp) (by simp))
          refine ⟨3, M, 0, j_up N 140 0 3, ?_, ?_, j_up_s, fun e => absurd e (by decide), hL'.k CF.refl c2 (by decide) (by decide) (by decide) (by decide) (by decide) (by decide) (by decide) (by decide)⟩
          · unfold s_L_accept s_X9_accept s_X5_outcomeLines
            rw [h_doc hY hr]
            dsimp only [Option.bind]
            rw [hreq, if_pos rfl]
            dsimp only
            rw [h92, hop, hyG.2.2.2.2.2.2.2.1]
            dsimp only
            rw [if_pos ((nI_le0 (by omega)).mpr hc), p_size d7, if_neg (by rw [show (24 : Int32) = nI 24 from rfl]; exact nI_ge (by omega) (by omega))]
            rfl
          · show s_X10_accept Y M 140 (nI r) = some (0, _)
            unfold s_X10_accept
            rw [if_neg (m_isRegT hr), hz, if_neg (by decide), hopm]
            dsimp only [Option.bind]
            rw [if_pos ((nI_le0 (by omega)).mpr hc), n1]
            dsimp only
            rw [n3.1, if_neg (by rw [show (24 : Int32) = nI 24 from rfl]; exact nI_ge (by omega) (by omega))]
            rfl
      · refine AG.bad (k := 2) (by decide) ?_ ?_ hL'
        · unfold s_L_accept s_X9_accept
          rw [h_doc hY hr]
          dsimp only [Option.bind]
          rw [hreq, if_pos rfl]
          dsimp only
          rw [h92, hop]
          dsimp only
          rw [if_neg (fun x => hc ((nI_le0 (by omega)).mp x))]
          rfl
        · show s_X10_accept Y M 140 (nI r) = some (0, _)
          unfold s_X10_accept
          rw [if_neg (m_isRegT hr), hz, if_neg (by decide), hopm]
          dsimp only [Option.bind]
          rw [if_neg (fun x => hc ((nI_le0 (by omega)).mp x))]
          rfl
  · refine AG.bad (k := 1) (by decide) ?_ ?_ hL'
    · unfold s_L_accept s_X9_accept
      rw [h_docN hp]
      rfl
    · show s_X10_accept Y M 140 p = some (0, _)
      unfold s_X10_accept
      rw [if_pos (h_bad hp)]
      rfl
theorem r_makePatch (hY : YH Y) (hL : RLL M) (p : Int32) : AG (s_L_makePatch Y M 0 p 174) (fun N => s_X10_makePatch Y N 140 p) := by
  have hL' := hL
  have hyM := hY.2.2.2.2.2.2.2.2.2.1
  have e1 : j_rf Y 140 1 = 140 + 1 := (hyM (1, 1, 96) (by decide)).1
  have l1 : j_ln Y (140 + 1) = 96 := (hyM (1, 1, 96) (by decide)).2
  have e2 : j_rf Y 140 2 = 140 + 2 := (hyM (2, 2, 4) (by decide)).1
  have l2 : j_ln Y (140 + 2) = 4 := (hyM (2, 2, 4) (by decide)).2
  obtain ⟨a0, a1, a2, a3, a4, a5, a6, a7, a8, a9⟩ := hL
  have a1' := a1
  have a3' := a3
  obtain ⟨ds, hS, hD⟩ := a1'
  obtain ⟨hs, hH, hHm⟩ := a3'
  have a7' := a7
  obtain ⟨mk, xs, ys, P, anc, mv, hC, hCm⟩ := a7'
  have hyC := hY.2.2.2.2.2.2.1.2
  have h66 : j_rf Y 0 6 = 66 := hY.2.2.2.2.2.2.1.1
  have hreq : s_X9_requireComparison Y M 0 = if mk then some (Sum.inr M) else some (Sum.inl (1, M)) := by
    unfold s_X9_requireComparison s_X1_exists
    rw [h66, hC.1]
    cases mk <;> rfl
  have hz : j_z (M 140 25) = if mk then 1 else 0 := by
    rw [hCm.1]
    cases mk <;> rfl
  have a9' := a9
  obtain ⟨pk, px, py, phs, pkp, hP, hPm⟩ := a9'
  by_cases hp : ∃ n : Nat, n < 4 ∧ p = nI n
  · have hp' := hp
    obtain ⟨c, hc, rfl⟩ := hp
    cases mk with
    | false =>
      refine AG.bad (k := 2) (by decide) ?_ ?_ hL'
      · unfold s_L_makePatch s_X9_makePatch
        rw [if_neg (fun x => (h_le2 (c := 3) (v := 3) rfl (by decide)).mp x hp'), hreq]
        rfl
      · show s_X10_makePatch Y M 140 (nI c) = some (0, _)
        unfold s_X10_makePatch
        rw [if_neg (fun x => (m_up2 (c := 3) (v := 3) rfl (by decide)).mp x hp'), hz]
        rfl
    | true =>
      obtain ⟨M1, b1, b2, b3⟩ := p_patchMake (o := 127) (q1 := 66) hY.2.2.2.2.2.2.2.2.1.2 hP hyC (by decide) hC (c := c) (by omega)
      obtain ⟨n, hn⟩ : ∃ z, z = (q_hunks xs.length c (q_dl (lk P) xs.length ys.length)).length := ⟨_, rfl⟩
      have hCF : CF [(127, 140)] [] M (j_up M1 174 0 (nI n)) := (CF.of b2 (by decide) (by decide)).trans CF.out
      have hmd : ∀ t, t < 34 → j_up M1 174 0 (nI n) (140 + t) = M (140 + t) := fun t ht => hCF.md (by decide) ht
      obtain ⟨M4, c1, c2, c3, c4⟩ := m_makePatch hyM (hCm.q (fun t ht => hmd t (by revert ht; revert t; decide)) (fun k _ => congrFun (hmd 0 (by decide)) k)) (c := c) (by omega)
      rw [← hn] at c1 b1
      have fo : JFr 174 175 M1 (j_up M1 174 0 (nI n)) := JFr.up
      have fm : JFr 140 174 _ M4 := c2.jfr (by decide)
      refine AG.ok (v := nI n) (M0 := M1) ?_ c1 c3 c2 (by decide) ⟨a0.k hCF c2 (by decide), a1.k hCF c2 (by decide), a2.k hCF c2 (by decide), a3.k hCF c2 (by decide), a4.k hCF c2 (by decide), a5.k hCF c2 (by decide), a6.k hCF c2 (by decide), a7.k hCF c2 (by decide), a8.k hCF c2 (by decide), ⟨_, _, _, _, _, (b3.frame fo (by decide)).frame fm (by decide), c4⟩⟩
      unfold s_L_makePatch s_X9_makePatch
      rw [if_neg (fun x => (h_le2 (c := 3) (v := 3) rfl (by decide)).mp x hp'), hreq, if_pos rfl]
      dsimp only [Option.bind]
      rw [h66, hY.2.2.2.2.2.2.2.2.1.1, b1]
      exact h_ret hY
  · refine AG.bad (k := 1) (by decide) ?_ ?_ hL'
    · unfold s_L_makePatch s_X9_makePatch
      rw [if_pos ((h_le2 (c := 3) (v := 3) rfl (by decide)).mpr hp)]
      rfl
    · show s_X10_makePatch Y M 140 p = some (0, _)
      unfold s_X10_makePatch
      rw [if_pos ((m_up2 (c := 3) (v := 3) rfl (by decide)).mpr hp)]
      rfl
theorem r_hunk (hY : YH Y) (hL : RLL M) (p w : Int32) : AG (s_L_hunk Y M 0 p w 174) (fun N => s_X10_hunk Y N 140 p w) := by
  have hL' := hL
  have hyM := hY.2.2.2.2.2.2.2.2.2.1
  have e1 : j_rf Y 140 1 = 140 + 1 := (hyM (1, 1, 96) (by decide)).1
  have l1 : j_ln Y (140 + 1) = 96 := (hyM (1, 1, 96) (by decide)).2
  have e2 : j_rf Y 140 2 = 140 + 2 := (hyM (2, 2, 4) (by decide)).1
  have l2 : j_ln Y (140 + 2) = 4 := (hyM (2, 2, 4) (by decide)).2
  obtain ⟨a0, a1, a2, a3, a4, a5, a6, a7, a8, a9⟩ := hL
  have a1' := a1
  have a3' := a3
  obtain ⟨ds, hS, hD⟩ := a1'
  obtain ⟨hs, hH, hHm⟩ := a3'
  have a9' := a9
  obtain ⟨mk, px, py, phs, pkp, hP, hPm⟩ := a9'
  have hyP := hY.2.2.2.2.2.2.2.2.1.2
  have h127 : j_rf Y 0 8 = 127 := hY.2.2.2.2.2.2.2.2.1.1
  have hreq : s_X9_requirePatch Y M 0 = if mk then some (Sum.inr M) else some (Sum.inl (1, M)) := by
    unfold s_X9_requirePatch s_X6_exists
    rw [h127, hP.1]
    cases mk <;> rfl
  have hz : j_z (M 140 51) = if mk then 1 else 0 := by
    rw [hPm.1]
    cases mk <;> rfl
  cases mk with
  | false =>
    refine AG.bad (k := 1) (by decide) ?_ ?_ hL'
    · unfold s_L_hunk s_X9_hunk
      rw [hreq]
      rfl
    · show s_X10_hunk Y M 140 p w = some (0, _)
      unfold s_X10_hunk
      rw [hz]
      rfl
  | true =>
    obtain ⟨u1, u2, u3, u4, d5⟩ := hP.2.2.2.2 rfl
    obtain ⟨-, e8, e9, -⟩ := hPm.2.2 rfl
    have hlt : (phs.map h_row).length = phs.length := List.length_map _
    have e52 : j_rf Y 140 52 = 140 + 29 := (hyM (52, 29, 150) (by decide)).1
    have l52 : j_ln Y (140 + 29) = 150 := (hyM (52, 29, 150) (by decide)).2
    have zt := hyP.2.2.1.2
    by_cases hq : ∃ i : Nat, i < phs.length ∧ p = nI i
    · obtain ⟨i, hi, rfl⟩ := hq
      by_cases hw : ∃ j : Nat, j < 6 ∧ w = nI j
      · obtain ⟨j, hj, rfl⟩ := hw
        have hCF : CF [] [] M (j_up M 174 0 (t_at (phs.map h_row) i j)) := CF.out
        have f0 : MF 140 [] [0] (j_up M 174 0 (t_at (phs.map h_row) i j)) (j_up (j_up M 174 0 (t_at (phs.map h_row) i j)) 140 0 0) := MF.uf
        have hmd : ∀ t, t < 34 → j_up M 174 0 (t_at (phs.map h_row) i j) (140 + t) = M (140 + t) := fun t ht => hCF.md (by decide) ht
        refine AG.ok (v := (t_at (phs.map h_row) i j)) (M0 := M) ?_ ?_ j_up_s f0 (by decide) (hL'.k hCF f0 (by decide) (by decide) (by decide) (by decide) (by decide) (by decide) (by decide) (by decide))
        · unfold s_L_hunk s_X9_hunk s_X6_parts
          rw [hreq, h127, hyP.2.2.1.1, if_pos rfl]
          dsimp only [Option.bind]
          have e := h_prop zt (by decide) (by decide) d5 (by rw [hlt]; exact hi) hj (by decide)
          rw [show nI 6 = (6 : Int32) from rfl] at e
          rw [e]
          exact h_ret hY
        · show s_X10_hunk Y _ 140 (nI i) (nI j) = _
          have h0 := congrFun (hmd 0 (by decide))
          unfold s_X10_hunk
          rw [h0 51, hz, if_neg (by decide), h0 53, e8, if_neg (fun c => (m_ix (by omega)).mp c ⟨i, hi, rfl⟩), if_neg (fun c => (m_up2 (c := 5) (v := 5) rfl (by decide)).mp c ⟨j, hj, rfl⟩), e52, l52, nI_6a, nI_add, if_pos (j_g_nI (by omega) (by omega)), nI_clamp (by omega), hmd 29 (by decide), e9 i (by rw [hlt]; exact hi) j hj]
          rfl
      · refine AG.bad (k := 3) (by decide) ?_ ?_ hL'
        · unfold s_L_hunk s_X9_hunk s_X6_parts
          rw [hreq, h127, hyP.2.2.1.1, if_pos rfl]
          dsimp only [Option.bind]
          have e := h_propW zt (by decide) d5 (i := i) (by rw [hlt]; exact hi) (n := 6) (by decide) hw
          rw [show nI 6 = (6 : Int32) from rfl] at e
          rw [e]
          rfl
        · show s_X10_hunk Y M 140 (nI i) w = some (0, _)
          unfold s_X10_hunk
          rw [hz, if_neg (by decide), e8, if_neg (fun c => (m_ix (by omega)).mp c ⟨i, hi, rfl⟩), if_pos ((m_up2 (c := 5) (v := 5) rfl (by decide)).mpr hw)]
          rfl
    · refine AG.bad (k := 2) (by decide) ?_ ?_ hL'
      · unfold s_L_hunk s_X9_hunk s_X6_parts
        rw [hreq, h127, hyP.2.2.1.1, if_pos rfl]
        dsimp only [Option.bind]
        rw [h_propI zt (by decide) d5 (by rw [hlt]; exact hq)]
        rfl
      · show s_X10_hunk Y M 140 p w = some (0, _)
        unfold s_X10_hunk
        rw [hz, if_neg (by decide), e8, if_pos ((m_ix (by omega)).mpr hq)]
        rfl
theorem r_outcome (hY : YH Y) (hL : RLL M) (p w : Int32) : AG (s_L_outcome Y M 0 p w 174) (fun N => s_X10_outcome Y N 140 p w) := by
  have hL' := hL
  have hyM := hY.2.2.2.2.2.2.2.2.2.1
  have e1 : j_rf Y 140 1 = 140 + 1 := (hyM (1, 1, 96) (by decide)).1
  have l1 : j_ln Y (140 + 1) = 96 := (hyM (1, 1, 96) (by decide)).2
  have e2 : j_rf Y 140 2 = 140 + 2 := (hyM (2, 2, 4) (by decide)).1
  have l2 : j_ln Y (140 + 2) = 4 := (hyM (2, 2, 4) (by decide)).2
  obtain ⟨a0, a1, a2, a3, a4, a5, a6, a7, a8, a9⟩ := hL
  have a1' := a1
  have a3' := a3
  obtain ⟨ds, hS, hD⟩ := a1'
  obtain ⟨hs, hH, hHm⟩ := a3'
  have a9' := a9
  obtain ⟨mk, px, py, phs, pkp, hP, hPm⟩ := a9'
  have hyP := hY.2.2.2.2.2.2.2.2.1.2
  have h127 : j_rf Y 0 8 = 127 := hY.2.2.2.2.2.2.2.2.1.1
  have hreq : s_X9_requirePatch Y M 0 = if mk then some (Sum.inr M) else some (Sum.inl (1, M)) := by
    unfold s_X9_requirePatch s_X6_exists
    rw [h127, hP.1]
    cases mk <;> rfl
  have hz : j_z (M 140 51) = if mk then 1 else 0 := by
    rw [hPm.1]
    cases mk <;> rfl
  have zt := hyP.2.2.2.2.1.2
  have d5 := hP.2.2.2.1
  have e57 : j_rf Y 140 57 = 140 + 32 := (hyM (57, 32, 50) (by decide)).1
  have l57 : j_ln Y (140 + 32) = 50 := (hyM (57, 32, 50) (by decide)).2
  have st : (M 140 56 = 0 ∧ pkp = []) ∨ (M 140 56 = 1 ∧ M 140 53 = nI pkp.length ∧ pkp.length ≤ 25 ∧ TBm M (140 + 32) 2 pkp) := by
    cases mk with
    | false => exact Or.inl (hPm.2.1 rfl)
    | true =>
      obtain ⟨⟨-, -, -, x1⟩, x2, -, -, -, x3⟩ := hPm.2.2 rfl
      rcases x3 with x3 | ⟨x3, x4, x5⟩
      · exact Or.inl x3
      · exact Or.inr ⟨x3, by rw [x4]; exact x2, by omega, x5⟩
  by_cases hq : ∃ i : Nat, i < pkp.length ∧ p = nI i
  · obtain ⟨i, hi, rfl⟩ := hq
    rcases st with ⟨-, st⟩ | ⟨s56, s53, s25, s32⟩
    · rw [st] at hi
      exact absurd hi (Nat.not_lt_zero _)
    · have hr0 : ¬ s_X8_hasRow Y M 136 (nI i) = 0 := fun c => (h_hasRow zt (by decide) d5 _).mp c ⟨i, hi, rfl⟩
      by_cases hw : ∃ j : Nat, j < 2 ∧ w = nI j
      · have hw' := hw
        obtain ⟨j, hj, rfl⟩ := hw
        have hCF : CF [] [] M (j_up M 174 0 (t_at pkp i j)) := CF.out
        have f0 : MF 140 [] [0] (j_up M 174 0 (t_at pkp i j)) (j_up (j_up M 174 0 (t_at pkp i j)) 140 0 0) := MF.uf
        have hmd : ∀ t, t < 34 → j_up M 174 0 (t_at pkp i j) (140 + t) = M (140 + t) := fun t ht => hCF.md (by decide) ht
        refine AG.ok (v := (t_at pkp i j)) (M0 := M) ?_ ?_ j_up_s f0 (by decide) (hL'.k hCF f0 (by decide) (by decide) (by decide) (by decide) (by decide) (by decide) (by decide) (by decide))
        · unfold s_L_outcome s_X9_outcome s_X6_outcomes
          rw [h127, hyP.2.2.2.2.1.1, if_neg hr0, if_neg (fun x => (h_le2 (c := 1) (v := 1) rfl (by decide)).mp x hw')]
          dsimp only [Option.bind]
          rw [p_tat zt (by decide) (by decide) d5 (by omega) (by omega)]
          exact h_ret hY
        · show s_X10_outcome Y _ 140 (nI i) (nI j) = _
          have h0 := congrFun (hmd 0 (by decide))
          unfold s_X10_outcome
          rw [h0 56, s56, h0 53, s53, if_neg (by rintro (c | c); exact absurd c (by decide); exact (m_ix (by omega)).mp c ⟨i, hi, rfl⟩), if_neg (fun c => (m_up2 (c := 1) (v := 1) rfl (by decide)).mp c hw'), e57, l57, nI_2a, nI_add, if_pos (j_g_nI (by omega) (by omega)), nI_clamp (by omega), hmd 32 (by decide), s32 i hi j hj]
          rfl
      · refine AG.bad (k := 2) (by decide) ?_ ?_ hL'
        · unfold s_L_outcome s_X9_outcome s_X6_outcomes
          rw [h127, hyP.2.2.2.2.1.1, if_neg hr0, if_pos ((h_le2 (c := 1) (v := 1) rfl (by decide)).mpr hw)]
          rfl
        · show s_X10_outcome Y M 140 (nI i) w = some (0, _)
          unfold s_X10_outcome
          rw [s56, s53, if_neg (by rintro (c | c); exact absurd c (by decide); exact (m_ix (by omega)).mp c ⟨i, hi, rfl⟩), if_pos ((m_up2 (c := 1) (v := 1) rfl (by decide)).mpr hw)]
          rfl
  · refine AG.bad (k := 1) (by decide) ?_ ?_ hL'
    · unfold s_L_outcome s_X9_outcome s_X6_outcomes
      rw [h127, hyP.2.2.2.2.1.1, if_pos ((h_hasRow zt (by decide) d5 _).mpr hq)]
      rfl
    · show s_X10_outcome Y M 140 p w = some (0, _)
      unfold s_X10_outcome
      rcases st with ⟨s56, -⟩ | ⟨s56, s53, s25, s32⟩
      · rw [s56, if_pos (Or.inl (by decide))]
        rfl
      · rw [s53, if_pos (Or.inr ((m_ix (by omega)).mpr hq))]
        rfl
theorem r_apply (hY : YH Y) (hL : RLL M) (p w b : Int32) : AG (s_L_apply Y M 0 p w b 174) (fun N => s_X10_apply Y N 140 p w b) := by
  have hL' := hL
  have hyM := hY.2.2.2.2.2.2.2.2.2.1
  have e1 : j_rf Y 140 1 = 140 + 1 := (hyM (1, 1, 96) (by decide)).1
  have l1 : j_ln Y (140 + 1) = 96 := (hyM (1, 1, 96) (by decide)).2
  have e2 : j_rf Y 140 2 = 140 + 2 := (hyM (2, 2, 4) (by decide)).1
  have l2 : j_ln Y (140 + 2) = 4 := (hyM (2, 2, 4) (by decide)).2
  obtain ⟨a0, a1, a2, a3, a4, a5, a6, a7, a8, a9⟩ := hL
  have a1' := a1
  have a3' := a3
  obtain ⟨ds, hS, hD⟩ := a1'
  obtain ⟨hs, hH, hHm⟩ := a3'
  have a9' := a9
  obtain ⟨mk, px, py, phs, pkp, hP, hPm⟩ := a9'
  have hyP := hY.2.2.2.2.2.2.2.2.1.2
  have h127 : j_rf Y 0 8 = 127 := hY.2.2.2.2.2.2.2.2.1.1
  have hreq : s_X9_requirePatch Y M 0 = if mk then some (Sum.inr M) else some (Sum.inl (1, M)) := by
    unfold s_X9_requirePatch s_X6_exists
    rw [h127, hP.1]
    cases mk <;> rfl
  have hz : j_z (M 140 51) = if mk then 1 else 0 := by
    rw [hPm.1]
    cases mk <;> rfl
  by_cases hp : ∃ r : Nat, r < 4 ∧ p = nI r
  · obtain ⟨r, hr, rfl⟩ := hp
    have hdoc := hS r hr
    have hya := h_m1 hY hr
    by_cases hw : ∃ n : Nat, n < 3 ∧ w = nI n
    · have hw' := hw
      obtain ⟨fz, hfz, rfl⟩ := hw
      have hle : ¬ (nI fz < 0 ∨ ¬ (nI fz ≤ (2 : Int32))) := fun x => (h_le2 (c := 2) (v := 2) rfl (by decide)).mp x hw'
      cases mk with
      | false =>
        refine AG.bad (k := 2) (by decide) ?_ ?_ hL'
        · unfold s_L_apply s_X9_apply
          rw [h_doc hY hr]
          dsimp only [Option.bind]
          rw [if_neg hle, hreq]
          rfl
        · show s_X10_apply Y M 140 (nI r) (nI fz) b = some (0, _)
          unfold s_X10_apply
          rw [if_neg (by rintro (c | c); exact m_isRegT hr c; exact (m_up2 (c := 2) (v := 2) rfl (by decide)).mp c hw'), hz]
          rfl
      | true =>
        obtain ⟨M1, b1, b2, b3, b4, b5, b6⟩ := p_attempt (o := 127) hyP hP hya hdoc (by omega) b (fz := fz) (by omega)
        have hpl : phs.length ≤ 25 := (hP.2.2.2.2 rfl).2.2.2.1
        have b2f := b2.fr
        obtain ⟨D, hDn⟩ : ∃ z, z = q_done (ds r) px py phs (decide (b ≠ 0)) fz := ⟨_, rfl⟩
        obtain ⟨tr, htr⟩ : ∃ z, z = (q_patch (ds r) px py phs (decide (b ≠ 0)) fz).2.2.2 := ⟨_, rfl⟩
        rw [← hDn] at b3
        rw [← htr] at b4 b6
        have h96 := b3.2.1
        by_cases hl : D.length ≤ 24
        · obtain ⟨M2, r1, r2, r3⟩ := p_hsRemember hY.2.2.1.2 (hH.frame b2f (by decide)) hya (hdoc.frame b2f (by omega)) (by omega) hr
          obtain ⟨M3, s1, s2, s3⟩ := p_become (M := M2) hya hyP.2.2.2.2.2.2 (b3.frame r2 (by decide)) (by omega) hl
          obtain ⟨M5, t1, t2, t3⟩ := p_keep (o := 127) hyP (by omega) ((b5.frame r2 (by decide)).frame s2 (by omega)) ((b4.frame r2 (by decide)).frame s2 (by omega))
          have hCF : CF [(1, 13), (25, 48), (127, 140)] [] M (j_up M5 174 0 (nI (k_many tr))) := ((((CF.of b2f (by decide) (by decide)).trans (CF.of r2 (by decide) (by decide))).trans (CF.of (s2.mono (lo' := 1) (hi' := 13) (by omega) (by omega)) (by decide) (by decide))).trans (CF.of (t2.mono (lo' := 127) (hi' := 140) (by decide) (by decide)) (by decide) (by decide))).trans CF.out
          have hmd : ∀ t, t < 34 → j_up M5 174 0 (nI (k_many tr)) (140 + t) = M (140 + t) := fun t ht => hCF.md (by decide) ht
          obtain ⟨M4, c2, c3⟩ := m_apply hyM (hD.eq (hmd 1 (by decide)) (hmd 2 (by decide))) (hHm.q (fun t ht => hmd t (by revert ht; revert t; decide)) (congrFun (hmd 0 (by decide)) 10)) (hPm.q (fun t ht => hmd t (by revert ht; revert t; decide)) (fun k _ => congrFun (hmd 0 (by decide)) k)) hr (fz := fz) (by omega) b
          rw [← hDn, ← htr, if_pos hl] at c3
          obtain ⟨c4, c5, c6, c7, c8⟩ := c3
          have fo : JFr 174 175 M5 (j_up M5 174 0 (nI (k_many tr))) := JFr.up
          have fm : JFr 140 174 _ M4 := c2.jfr (by decide)
          refine AG.ok (v := nI (k_many tr)) (M0 := M5) ?_ c4 c5 c2 (by decide) ⟨a0.k hCF c2 (by decide), ⟨_, ((((((hS.frame b2f (by decide)).frame r2 (by decide)).set s2 s3).frame t2 (by decide)).frame fo (by decide)).frame fm (by decide)), c6⟩, a2.k hCF c2 (by decide), ⟨_, ((((r3.frame s2 (by omega)).frame t2 (by decide)).frame fo (by decide)).frame fm (by decide)), c7⟩, a4.k hCF c2 (by decide), a5.k hCF c2 (by decide), a6.k hCF c2 (by decide), a7.k hCF c2 (by decide), a8.k hCF c2 (by decide), ⟨_, _, _, _, _, (t3.frame fo (by decide)).frame fm (by decide), c8⟩⟩
          unfold s_L_apply s_X9_apply s_X9_changeTo
          rw [h_doc hY hr]
          dsimp only [Option.bind]
          rw [if_neg hle, hreq, if_pos rfl]
          dsimp only
          rw [h127, b1]
          dsimp only
          rw [p_size b3, if_pos (by rw [show (24 : Int32) = nI 24 from rfl]; exact nI_le hl (by omega)), hY.2.2.1.1, r1]
          dsimp only
          rw [s1]
          dsimp only
          rw [t1]
          exact h_ret hY
        · have hCF : CF [(127, 140)] [] M M1 := CF.of b2f (by decide) (by decide)
          have hmd : ∀ t, t < 34 → M1 (140 + t) = M (140 + t) := fun t ht => hCF.md (by decide) ht
          obtain ⟨M4, c2, c3⟩ := m_apply hyM (hD.eq (hmd 1 (by decide)) (hmd 2 (by decide))) (hHm.q (fun t ht => hmd t (by revert ht; revert t; decide)) (congrFun (hmd 0 (by decide)) 10)) (hPm.q (fun t ht => hmd t (by revert ht; revert t; decide)) (fun k _ => congrFun (hmd 0 (by decide)) k)) hr (fz := fz) (by omega) b
          rw [← hDn, if_neg hl] at c3
          obtain ⟨c4, c5, c6, c7, c8⟩ := c3
          have fm : JFr 140 174 _ M4 := c2.jfr (by decide)
          refine ⟨3, M1, 0, M4, ?_, c4, c5, fun e => absurd e (by decide), ⟨a0.k hCF c2 (by decide), ⟨_, (hS.frame b2f (by decide)).frame fm (by decide), c6⟩, a2.k hCF c2 (by decide), ⟨_, (hH.frame b2f (by decide)).frame fm (by decide), c7⟩, a4.k hCF c2 (by decide), a5.k hCF c2 (by decide), a6.k hCF c2 (by decide), a7.k hCF c2 (by decide), a8.k hCF c2 (by decide), ⟨_, _, _, _, _, b5.frame fm (by decide), c8⟩⟩⟩
          unfold s_L_apply s_X9_apply
          rw [h_doc hY hr]
          dsimp only [Option.bind]
          rw [if_neg hle, hreq, if_pos rfl]
          dsimp only
          rw [h127, b1]
          dsimp only
          rw [p_size b3, if_neg (by rw [show (24 : Int32) = nI 24 from rfl]; exact nI_ge (by omega) (by omega))]
          rfl
    · refine AG.bad (k := 1) (by decide) ?_ ?_ hL'
      · unfold s_L_apply s_X9_apply
        rw [h_doc hY hr]
        dsimp only [Option.bind]
        rw [if_pos ((h_le2 (c := 2) (v := 2) rfl (by decide)).mpr hw)]
        rfl
      · show s_X10_apply Y M 140 (nI r) w b = some (0, _)
        unfold s_X10_apply
        rw [if_pos (Or.inr ((m_up2 (c := 2) (v := 2) rfl (by decide)).mpr hw))]
        rfl
  · refine AG.bad (k := 1) (by decide) ?_ ?_ hL'
    · unfold s_L_apply s_X9_apply
      rw [h_docN hp]
      rfl
    · show s_X10_apply Y M 140 p w b = some (0, _)
      unfold s_X10_apply
      rw [if_pos (Or.inl (h_bad hp))]
      rfl
theorem r_undo (hY : YH Y) (hL : RLL M) : AG (s_L_undo Y M 0 174) (fun N => s_X10_undo Y N 140) := by
  have hL' := hL
  have hyM := hY.2.2.2.2.2.2.2.2.2.1
  have e1 : j_rf Y 140 1 = 140 + 1 := (hyM (1, 1, 96) (by decide)).1
  have l1 : j_ln Y (140 + 1) = 96 := (hyM (1, 1, 96) (by decide)).2
  have e2 : j_rf Y 140 2 = 140 + 2 := (hyM (2, 2, 4) (by decide)).1
  have l2 : j_ln Y (140 + 2) = 4 := (hyM (2, 2, 4) (by decide)).2
  obtain ⟨a0, a1, a2, a3, a4, a5, a6, a7, a8, a9⟩ := hL
  have a1' := a1
  have a3' := a3
  obtain ⟨ds, hS, hD⟩ := a1'
  obtain ⟨hs, hH, hHm⟩ := a3'
  have hemp := p_hsEmpty (Y := Y) hH
  cases hs with
  | nil =>
    refine AG.bad (k := 1) (by decide) ?_ ?_ hL'
    · unfold s_L_undo s_X9_undo
      rw [hY.2.2.1.1, hemp, if_pos rfl, if_neg (by decide)]
      rfl
    · show s_X10_undo Y M 140 = some (0, _)
      unfold s_X10_undo
      rw [hHm.1, if_pos (by decide)]
      rfl
  | cons h0 hs =>
    obtain ⟨r, xs⟩ := h0
    have hr : r < 4 := (hHm.2.2 0 r xs rfl).1
    obtain ⟨M2, M1, b1, b2, b3, b4, b5⟩ := p_hsTakeBack hY.2.2.1.2 hH hr hY.1.2 hS (by decide)
    have hCF : CF [(1, 13), (25, 48)] [] M (j_up M2 174 0 (nI r)) := ((CF.of b2 (by decide) (by decide)).trans (CF.of (b3.mono (lo' := 1) (hi' := 13) (by decide) (by decide)) (by decide) (by decide))).trans CF.out
    have hmd : ∀ t, t < 34 → j_up M2 174 0 (nI r) (140 + t) = M (140 + t) := fun t ht => hCF.md (by decide) ht
    obtain ⟨M4, c1, c2, c3, c4, c5, -⟩ := m_undo hyM (hD.eq (hmd 1 (by decide)) (hmd 2 (by decide))) (hHm.q (fun t ht => hmd t (by revert ht; revert t; decide)) (congrFun (hmd 0 (by decide)) 10))
    have fo : JFr 174 175 M2 (j_up M2 174 0 (nI r)) := JFr.up
    have fm : JFr 140 174 _ M4 := c2.jfr (by decide)
    refine AG.ok (v := nI r) (M0 := M2) ?_ c1 c3 c2 (by decide) ⟨a0.k hCF c2 (by decide), ⟨_, (b5.frame fo (by decide)).frame fm (by decide), c4⟩, a2.k hCF c2 (by decide), ⟨_, (b4.frame fo (by decide)).frame fm (by decide), c5⟩, a4.k hCF c2 (by decide), a5.k hCF c2 (by decide), a6.k hCF c2 (by decide), a7.k hCF c2 (by decide), a8.k hCF c2 (by decide), a9.k hCF c2 (by decide)⟩
    unfold s_L_undo s_X9_undo
    rw [hY.2.2.1.1, hemp.trans (if_neg (List.cons_ne_nil _ _)), if_pos (by decide), hY.1.1, b1]
    exact h_ret hY
theorem r_save (hY : YH Y) (hL : RLL M) : ∃ v M1 M2, s_X9_save Y M 0 = some (v, M1) ∧ s_X10_save Y M1 140 = some (v, M2) ∧ RLL M2 := by
  have hL' := hL
  have hyM := hY.2.2.2.2.2.2.2.2.2.1
  have e1 : j_rf Y 140 1 = 140 + 1 := (hyM (1, 1, 96) (by decide)).1
  have l1 : j_ln Y (140 + 1) = 96 := (hyM (1, 1, 96) (by decide)).2
  have e2 : j_rf Y 140 2 = 140 + 2 := (hyM (2, 2, 4) (by decide)).1
  have l2 : j_ln Y (140 + 2) = 4 := (hyM (2, 2, 4) (by decide)).2
  obtain ⟨a0, a1, a2, a3, a4, a5, a6, a7, a8, a9⟩ := hL
  have a1' := a1
  have a3' := a3
  obtain ⟨ds, hS, hD⟩ := a1'
  obtain ⟨hs, hH, hHm⟩ := a3'
  obtain ⟨es, hE, z1, z2, z3⟩ := a2
  obtain ⟨M1, b1, b2, b3⟩ := p_shbecome hY.2.1.2 hE hY.1.2 hS (by decide)
  have x9 : M1 0 9 = M 0 9 := congrFun (b2 0 (by decide)) 9
  have f1 : CF [(13, 25)] [10, 11] M1 (j_up M1 0 10 (M 0 9)) := CF.root (by decide)
  have f2 : CF [(13, 25)] [10, 11] (j_up M1 0 10 (M 0 9)) (j_up (j_up M1 0 10 (M 0 9)) 0 11 1) := CF.root (by decide)
  obtain ⟨M3, hM3⟩ : ∃ z, z = j_up (j_up M1 0 10 (M 0 9)) 0 11 1 := ⟨_, rfl⟩
  rw [← hM3] at f2
  have fr : JFr 0 1 M1 M3 := by rw [hM3]; exact JFr.up.trans JFr.up
  have hCF : CF [(13, 25)] [10, 11] M M3 := ((CF.of (b2.mono (lo' := 13) (hi' := 25) (by decide) (by decide)) (by decide) (by decide)).trans f1).trans f2
  have hmd : ∀ t, t < 34 → M3 (140 + t) = M (140 + t) := fun t ht => hCF.md (by decide) ht
  obtain ⟨M4, c1, c2, c3, c4, c5, c6⟩ := m_save hyM (hD.eq (hmd 1 (by decide)) (hmd 2 (by decide)))
  have fm : JFr 140 174 _ M4 := c2.jfr (by decide)
  have b4 := b3.frame fr (by decide)
  have y10 : M4 0 10 = M 0 9 := by rw [c2.cls (by decide) (Or.inl (by decide)), hM3, j_up_k (by decide), j_up_s]
  have y11 : M4 0 11 = 1 := by rw [c2.cls (by decide) (Or.inl (by decide)), hM3, j_up_s]
  have y14 : M4 140 14 = M 0 9 := by rw [c6]; exact (congrFun (hmd 0 (by decide)) 3).trans a0.1.symm
  refine ⟨_, M3, M4, ?_, c1, ⟨a0.k hCF c2 (by decide), a1.k hCF c2 (by decide), ⟨ds, b4.frame fm (by decide), y10.trans y14.symm, by rw [y10]; exact a0.2.1, Or.inr ⟨y11, c5, c4⟩⟩, a3.k hCF c2 (by decide), a4.k hCF c2 (by decide), a5.k hCF c2 (by decide), a6.k hCF c2 (by decide), a7.k hCF c2 (by decide), a8.k hCF c2 (by decide), a9.k hCF c2 (by decide)⟩⟩
  unfold s_X9_save
  rw [hY.1.1, hY.2.1.1, b1]
  dsimp only [Option.bind, lt_]
  rw [x9, ← hM3, p_allLines hY.2.1.2 b4]
theorem r_restore (hY : YH Y) (hL : RLL M) : AG (s_L_restore Y M 0 174) (fun N => s_X10_restore Y N 140) := by
  have hL' := hL
  have hyM := hY.2.2.2.2.2.2.2.2.2.1
  have e1 : j_rf Y 140 1 = 140 + 1 := (hyM (1, 1, 96) (by decide)).1
  have l1 : j_ln Y (140 + 1) = 96 := (hyM (1, 1, 96) (by decide)).2
  have e2 : j_rf Y 140 2 = 140 + 2 := (hyM (2, 2, 4) (by decide)).1
  have l2 : j_ln Y (140 + 2) = 4 := (hyM (2, 2, 4) (by decide)).2
  obtain ⟨a0, a1, a2, a3, a4, a5, a6, a7, a8, a9⟩ := hL
  have a1' := a1
  have a3' := a3
  obtain ⟨ds, hS, hD⟩ := a1'
  obtain ⟨hs, hH, hHm⟩ := a3'
  obtain ⟨es, hE, z1, z2, z3⟩ := a2
  rcases z3 with ⟨z3, z4⟩ | ⟨z3, z4, z5⟩
  · refine AG.bad (k := 1) (by decide) ?_ ?_ hL'
    · unfold s_L_restore s_X9_restore
      rw [z3, if_pos (by decide)]
      rfl
    · show s_X10_restore Y M 140 = some (0, _)
      unfold s_X10_restore
      rw [z4, if_pos (by decide)]
      rfl
  · obtain ⟨M1, b1, b2, b3⟩ := p_shbecome hY.1.2 hS hY.2.1.2 hE (by decide)
    have x10 : M1 0 10 = M 0 10 := congrFun (b2 0 (by decide)) 10
    have g1 : JFr 0 1 M1 (j_up M1 0 9 (M 0 10)) := JFr.up
    obtain ⟨h1, h2⟩ := p_hsForget (Y := Y) ((hH.frame b2 (by decide)).frame g1 (by decide))
    obtain ⟨M3, hM3⟩ : ∃ z, z = s_X2_forget Y (j_up M1 0 9 (M 0 10)) 25 := ⟨_, rfl⟩
    rw [← hM3] at h1 h2
    have hCF : CF [(1, 13), (25, 48)] [9] M (j_up M3 174 0 (nI (f_sum es 0 4))) := (((CF.of (b2.mono (lo' := 1) (hi' := 13) (by decide) (by decide)) (by decide) (by decide)).trans (CF.root (by decide))).trans (CF.of h2 (by decide) (by decide))).trans CF.out
    have hmd : ∀ t, t < 34 → j_up M3 174 0 (nI (f_sum es 0 4)) (140 + t) = M (140 + t) := fun t ht => hCF.md (by decide) ht
    obtain ⟨M4, c1, c2, c3, c4, c5, c6⟩ := m_restore hyM (z5.eq (hmd 7 (by decide)) (hmd 8 (by decide))) ((congrFun (hmd 0 (by decide)) 11).trans z4)
    have fo : JFr 174 175 M3 (j_up M3 174 0 (nI (f_sum es 0 4))) := JFr.up
    have fm : JFr 140 174 _ M4 := c2.jfr (by decide)
    have b4 := (b3.frame g1 (by decide)).frame h2 (by decide)
    have a2 : R2 M := ⟨es, hE, z1, z2, Or.inr ⟨z3, z4, z5⟩⟩
    have y9 : M4 0 9 = M 0 10 := by
      rw [c2.cls (by decide) (Or.inl (by decide)), j_up_o (by decide), h2 0 (by decide), j_up_s]
    have y12 : M4 0 12 = M 0 12 := by
      rw [c2.cls (by decide) (Or.inl (by decide))]
      exact hCF.2 12 (by decide)
    have y3 : M4 140 3 = M 0 10 := by
      rw [c5, z1]
      exact congrFun (hmd 0 (by decide)) 14
    have y4 : M4 140 4 = M 140 4 := by
      rw [c2.fld (by decide) (by decide)]
      exact congrFun (hmd 0 (by decide)) 4
    refine AG.ok (v := nI (f_sum es 0 4)) (M0 := M3) ?_ c1 c3 c2 (by decide) ⟨⟨y9.trans y3.symm, by rw [y9]; exact z2, by rw [y12, y4]; exact a0.2.2.1, by rw [y12]; exact a0.2.2.2⟩, ⟨_, (b4.frame fo (by decide)).frame fm (by decide), c4⟩, a2.k hCF c2 (by decide), ⟨[], (h1.frame fo (by decide)).frame fm (by decide), c6⟩, a4.k hCF c2 (by decide), a5.k hCF c2 (by decide), a6.k hCF c2 (by decide), a7.k hCF c2 (by decide), a8.k hCF c2 (by decide), a9.k hCF c2 (by decide)⟩
    unfold s_L_restore s_X9_restore
    rw [z3, if_neg (by decide), hY.1.1, hY.2.1.1, b1]
    dsimp only [Option.bind, lt_]
    rw [x10, hY.2.2.1.1, ← hM3, p_allLines hY.1.2 b4]
    exact h_ret hY
end RLH

/-! ===== pure: patches; the model applies one ===== -/
section PAM
variable {Y : JY} {M : JM} {om : Nat} {xs ys ts acc : List Int32} {hs : List HK} {tr : List (List Int32)}
theorem m_outDoc (hy : MdAt Y om) {r : Nat} (hr : r < 4) {e : Nat} (he : e ≤ ts.length) : ∀ (d b n : Nat) (M : JM) (acc : List Int32), e = b + d → d < n → DR M om r ts → OT M om acc → acc.length + d ≤ 2000 →
      ∃ M', lp_X10_goesOutDocument_1 Y (nI e) (nI r) om n (nI b) M = some M' ∧ MF om [9] [18] M M' ∧ OT M' om (acc ++ l_seg ts b e) := by
  have e15 : j_rf Y om 15 = om + 9 := (hy (15, 9, 2000) (by decide)).1
  have l15 : j_ln Y (om + 9) = 2000 := (hy (15, 9, 2000) (by decide)).2
  have e1 : j_rf Y om 1 = om + 1 := (hy (1, 1, 96) (by decide)).1
  have l1 : j_ln Y (om + 1) = 96 := (hy (1, 1, 96) (by decide)).2
  intro d
  induction d with
  | zero =>
    intro b n M acc hb hn hD h hl
    obtain ⟨n, rfl⟩ : ∃ z, n = z + 1 := ⟨n - 1, by omega⟩
    have h24 := hD.2.1
    refine ⟨M, ?_, MF.refl, by rw [l_seg_nil (by omega), List.append_nil]; exact h⟩
    unfold lp_X10_goesOutDocument_1
    rw [if_pos (nI_le (by omega) (by omega))]
  | succ d ih =>
    intro b n M acc hb hn hD h hl
    obtain ⟨n, rfl⟩ : ∃ z, n = z + 1 := ⟨n - 1, by omega⟩
    obtain ⟨h1, h2⟩ := h
    have h24 := hD.2.1
    have hbx : b < ts.length := by omega
    have hv : M (om + 1) (24 * r + b) = ts[b] := by
      have := hD.2.2 b hbx
      rw [List.getElem?_eq_getElem hbx] at this
      exact (Option.some.inj this).symm
    have f1 : MF om [9] [] M (j_up M (om + 9) acc.length ts[b]) := MF.ua
    have f2 : MF om [] [18] (j_up M (om + 9) acc.length ts[b]) (j_up (j_up M (om + 9) acc.length ts[b]) om 18 (nI (acc.length + 1))) := MF.uf
    have F : MF om [9] [18] M (j_up (j_up M (om + 9) acc.length ts[b]) om 18 (nI (acc.length + 1))) := (f1.mono (by simp) (by simp)).trans (f2.mono (by simp) (by simp))
    obtain ⟨M', a1, a2, a3⟩ := ih (b + 1) n (j_up (j_up M (om + 9) acc.length ts[b]) om 18 (nI (acc.length + 1))) (acc ++ [ts[b]]) (by omega) (by omega) (hD.eq (F.arr (t := 1) (by decide) (by decide)) (F.arr (t := 2) (by decide) (by decide))) ⟨by rw [j_up_s, List.length_append]; rfl, h2.app.eq (f2.arr (t := 9) (by decide) (by decide))⟩ (by rw [List.length_append, List.length_singleton]; omega)
    refine ⟨M', ?_, F.trans a2, ?_⟩
    · unfold lp_X10_goesOutDocument_1
      rw [if_neg (nI_ge (by omega) (by omega)), nI_24, e1, l1, e15, l15, h1, if_pos (j_g_nI (by omega) (by omega)), if_pos (j_g_nI (by omega) (by omega)), nI_clamp (by omega), nI_clamp (by omega), hv]
      dsimp only [lt_]
      rw [f1.fld (by decide) (by decide), h1, nI_1, nI_1]
      exact a1
    · rw [l_seg_step (by omega) hbx]
      rw [List.append_assoc] at a3
      exact a3
theorem m_goesDoc (hy : MdAt Y om) {r : Nat} (hr : r < 4) {b e : Nat} (hb : b ≤ e) (he : e ≤ ts.length) (hD : DR M om r ts) (h : OT M om acc) (hl : acc.length + (e - b) ≤ 2000) :
      ∃ M', s_X10_goesOutDocument Y M om (nI r) (nI b) (nI e) = some M' ∧ MF om [9] [18] M M' ∧ OT M' om (acc ++ l_seg ts b e) := by
  have h24 := hD.2.1
  obtain ⟨M', a1, a2, a3⟩ := m_outDoc hy hr he (e - b) b j_fuel M acc (by omega) (j_fuel_gt (by omega)) hD h hl
  refine ⟨M', ?_, a2, a3⟩
  unfold s_X10_goesOutDocument
  rw [a1]
  rfl
/-- a hunk was applied -/
def AUm (M M' : JM) (om : Nat) (ts ns acc : List Int32) (tr : List (List Int32)) (rp : Nat) (hk : HK) (rv : Bool) (f : Nat) (p : Int) : Prop :=
  MF om [9, 33] [18, 58, 59] M M' ∧ M' om 58 = nI (p.toNat + (h_oe hk rv f - h_ob hk rv f)) ∧ M' om 59 = nZ (p - (h_ob hk rv f : Int)) ∧ OT M' om (acc ++ l_seg ts rp p.toNat ++ l_seg ns (h_ob hk (!rv) f) (h_oe hk (!rv) f)) ∧ TBm M' (om + 33) 2 (tr ++ [[nZ p, nI f]])
theorem m_applies (hy : MdAt Y om) {r : Nat} (hr : r < 4) (hD : DR M om r ts) (hT : TBm M (om + 29) 6 (hs.map h_row)) (hlen : hs.length ≤ 25) (hx24 : xs.length ≤ 24) (hy24 : ys.length ≤ 24) (hX : RA M (om + 30) xs) (hY : RA M (om + 31) ys) {i : Nat} {hk : HK} (hh : hs[i]? = some hk) (hv : HV xs.length ys.length hk) (rv : Int32) {rp : Nat} (h58 : M om 58 = nI rp) (hrp : rp ≤ ts.length) {sf : Int} (h59 : M om 59 = nZ sf) (hsf : -100 ≤ sf ∧ sf ≤ 100) (hO : OT M om acc) (hal : acc.length ≤ 1900) (htl : tr.length = i) (hC : TBm M (om + 33) 2 (tr ++ [[-1, -1]])) {f : Nat} (hf : f ≤ 100) :
    match q_ff ts (h_os xs ys (decide (rv ≠ 0))) rp (h_ob hk (decide (rv ≠ 0)) f) (h_oe hk (decide (rv ≠ 0)) f) ((h_ob hk (decide (rv ≠ 0)) f : Int) + sf) 11 0 with
    | none => s_X10_applies Y M om (nI r) (nI i) (nI f) rv = some (0, M)
    | some p => ∃ M', s_X10_applies Y M om (nI r) (nI i) (nI f) rv = some (1, M') ∧ AUm M M' om ts (h_os xs ys (!decide (rv ≠ 0))) acc tr rp hk (decide (rv ≠ 0)) f p := by
  have e52 : j_rf Y om 52 = om + 29 := (hy (52, 29, 150) (by decide)).1
  have l52 : j_ln Y (om + 29) = 150 := (hy (52, 29, 150) (by decide)).2
  have e54 : j_rf Y om 54 = om + 30 := (hy (54, 30, 24) (by decide)).1
  have e55 : j_rf Y om 55 = om + 31 := (hy (55, 31, 24) (by decide)).1
  have l54 : j_ln Y (om + 30) = 24 := (hy (54, 30, 24) (by decide)).2
  have l55 : j_ln Y (om + 31) = 24 := (hy (55, 31, 24) (by decide)).2
  have e60 : j_rf Y om 60 = om + 33 := (hy (60, 33, 50) (by decide)).1
  have l60 : j_ln Y (om + 33) = 50 := (hy (60, 33, 50) (by decide)).2
  have ht24 := hD.2.1
  have hil : i < hs.length := by
    apply Classical.byContradiction
    intro q
    rw [List.getElem?_eq_none (by omega)] at hh
    exact absurd hh (by simp)
  obtain ⟨R, hR⟩ : ∃ z, z = decide (rv ≠ 0) := ⟨_, rfl⟩
  have er : ∀ {α : Type} (a b : α), (if rv = 0 then a else b) = if R then b else a := by
    intro α a b
    by_cases q : rv = 0
    · rw [if_pos q, hR, decide_eq_false (fun c => c q), if_neg (by decide)]
    · rw [if_neg q, hR, decide_eq_true q, if_pos rfl]
  rw [← hR]
  have o1 := hv.ob R f
  have o2 := hv.ob (!R) f
  obtain ⟨q, hq⟩ : ∃ z, z = 6 * i := ⟨_, rfl⟩
  have rd : ∀ j, j < 6 → M (om + 29) (q + j) = ((h_row hk)[j]?).getD (-1) := fun j hj => by
    rw [hq, ← hT i (by rw [List.length_map]; exact hil) j hj]
    unfold t_at
    rw [List.getElem?_map, hh]
    rfl
  have r0 : M (om + 29) q = nI hk.1 := rd 0 (by decide)
  have r1 : M (om + 29) (q + 1) = nI hk.2.1 := rd 1 (by decide)
  have r2 : M (om + 29) (q + 2) = nI hk.2.2.1 := rd 2 (by decide)
  have r3 : M (om + 29) (q + 3) = nI hk.2.2.2.1 := rd 3 (by decide)
  have r4 : M (om + 29) (q + 4) = nI hk.2.2.2.2.1 := rd 4 (by decide)
  have r5 : M (om + 29) (q + 5) = nI hk.2.2.2.2.2 := rd 5 (by decide)
  have g0 : j_g (nI q) 150 := j_g_nI (by omega) (by omega)
  have g1 : j_g (nI (q + 1)) 150 := j_g_nI (by omega) (by omega)
  have g2 : j_g (nI (q + 2)) 150 := j_g_nI (by omega) (by omega)
  have g3 : j_g (nI (q + 3)) 150 := j_g_nI (by omega) (by omega)
  have g4 : j_g (nI (q + 4)) 150 := j_g_nI (by omega) (by omega)
  have g5 : j_g (nI (q + 5)) 150 := j_g_nI (by omega) (by omega)
  obtain ⟨u1, u2, ⟨u3, u4⟩, u5, u6⟩ := hv
  have w1 : s_X10_least Y M (nI f) (nI hk.2.2.2.2.1) = nI (min f hk.2.2.2.2.1) := p_least (by omega) (by omega)
  have w2 : s_X10_least Y M (nI f) (nI hk.2.2.2.2.2) = nI (min f hk.2.2.2.2.2) := p_least (by omega) (by omega)
  have vb : nI (if R then hk.2.2.1 else hk.1) + nI (min f hk.2.2.2.2.1) = nI (h_ob hk R f) := by rw [nI_add]; rfl
  have vn : nI (if R then hk.1 else hk.2.2.1) + nI (min f hk.2.2.2.2.1) = nI (h_ob hk (!R) f) := by
    rw [nI_add]
    unfold h_ob
    cases R <;> rfl
  have vl : nI (if R then hk.2.2.2.1 else hk.2.1) - nI (min f hk.2.2.2.2.1) - nI (min f hk.2.2.2.2.2) = nI (h_oe hk R f - h_ob hk R f) := by
    rw [nI_sb (by split <;> omega), nI_sb (by split <;> omega)]
    unfold h_oe h_ob
    cases R with
    | true =>
      simp only [if_true]
      congr 1
      omega
    | false =>
      simp only [if_false, Bool.false_eq_true]
      congr 1
      omega
  have vm : nI (if R then hk.2.1 else hk.2.2.2.1) - nI (min f hk.2.2.2.2.1) - nI (min f hk.2.2.2.2.2) = nI (h_oe hk (!R) f - h_ob hk (!R) f) := by
    rw [nI_sb (by split <;> omega), nI_sb (by split <;> omega)]
    unfold h_oe h_ob
    cases R with
    | true =>
      simp only [if_true, if_false, Bool.not_true, Bool.false_eq_true]
      congr 1
      omega
    | false =>
      simp only [if_true, if_false, Bool.not_false, Bool.false_eq_true]
      congr 1
      omega
  obtain ⟨tq, htq⟩ : ∃ z, z = if R then 31 else 30 := ⟨_, rfl⟩
  obtain ⟨tn, htn⟩ : ∃ z, z = if R then 30 else 31 := ⟨_, rfl⟩
  have hos : (h_os xs ys R).length ≤ 24 := by
    unfold h_os
    split <;> assumption
  have hns : (h_os xs ys (!R)).length ≤ 24 := by
    unfold h_os
    split <;> assumption
  have hol : (h_os xs ys R).length = if R then ys.length else xs.length := by cases R <;> rfl
  have hnl : (h_os xs ys (!R)).length = if !R then ys.length else xs.length := by cases R <;> rfl
  have hq1 : RA M (om + tq) (h_os xs ys R) := by
    rw [htq]
    cases R with
    | true => exact hY
    | false => exact hX
  have hq2 : RA M (om + tn) (h_os xs ys (!R)) := by
    rw [htn]
    cases R with
    | true => exact hX
    | false => exact hY
  have hl1 : j_ln Y (om + tq) = 24 := by
    rw [htq]
    cases R with
    | true => exact l55
    | false => exact l54
  have hl2 : j_ln Y (om + tn) = 24 := by
    rw [htn]
    cases R with
    | true => exact l54
    | false => exact l55
  have htn9 : tn ≠ 9 ∧ tn ≠ 0 := by
    rw [htn]
    cases R <;> decide
  have hall := m_app_all hy hr hD hl1 hos hq1 h58 (by omega) h59 hsf (b := h_ob hk R f) (e := h_oe hk R f) (by omega)
  have un : s_X10_applies Y M om (nI r) (nI i) (nI f) rv = ((lp_X10_applies_1 Y M (nI (h_ob hk R f)) om (nI r) (om + tq) (nI (h_oe hk R f - h_ob hk R f)) j_fuel 0).bind fun xx61 => match xx61 with | Sum.inl xx61a => ((s_X10_goesOutDocument Y M om (nI r) (M om 58) xx61a).bind fun xx52 => (s_X10_goesOut Y xx52 om (om + tn) (nI (h_ob hk (!R) f)) (nI (h_ob hk (!R) f) + nI (h_oe hk (!R) f - h_ob hk (!R) f))).bind fun xx53 => lt_ (j_up xx53 om 58 (xx61a + nI (h_oe hk R f - h_ob hk R f))) fun mm54 => lt_ (j_up mm54 om 59 (xx61a - nI (h_ob hk R f))) fun mm55 => if j_g ((2 : Int32) * nI i) 50 then (lt_ (j_up mm55 (om + 33) ((2 : Int32) * nI i).toNatClampNeg xx61a) fun mm58 => if j_g (((2 : Int32) * nI i) + (1 : Int32)) 50 then (lt_ (j_up mm58 (om + 33) (((2 : Int32) * nI i) + (1 : Int32)).toNatClampNeg (nI f)) fun mm60 => some ((1 : Int32), mm60)) else none) else none) | Sum.inr xx61a => (some (xx61a.1, xx61a.2))) := by
    unfold s_X10_applies
    dsimp only [lt_]
    simp only [er]
    rw [e52, l52, e54, e55, e60, l60, nI_6a, ← hq]
    rw [show nI q + (1 : Int32) = nI (q + 1) from nI_add _ 1, show nI q + (2 : Int32) = nI (q + 2) from nI_add _ 2, show nI q + (3 : Int32) = nI (q + 3) from nI_add _ 3, show nI q + (4 : Int32) = nI (q + 4) from nI_add _ 4, show nI q + (5 : Int32) = nI (q + 5) from nI_add _ 5]
    cases hRR : R with
    | true =>
      rw [hRR] at vb vn vl vm htq htn
      simp only [if_true, if_pos g0, if_pos g1, if_pos g2, if_pos g3, if_pos g4, if_pos g5, nI_clamp (show q < 2 ^ 31 by omega), nI_clamp (show q + 1 < 2 ^ 31 by omega), nI_clamp (show q + 2 < 2 ^ 31 by omega), nI_clamp (show q + 3 < 2 ^ 31 by omega), nI_clamp (show q + 4 < 2 ^ 31 by omega), nI_clamp (show q + 5 < 2 ^ 31 by omega), r0, r1, r2, r3, r4, r5, w1, w2] at vb vn vl vm htq htn ⊢
      rw [vb, vn, vl, vm, htq, htn]
      rfl
    | false =>
      rw [hRR] at vb vn vl vm htq htn
      simp only [if_false, Bool.false_eq_true, if_pos g0, if_pos g1, if_pos g2, if_pos g3, if_pos g4, if_pos g5, nI_clamp (show q < 2 ^ 31 by omega), nI_clamp (show q + 1 < 2 ^ 31 by omega), nI_clamp (show q + 2 < 2 ^ 31 by omega), nI_clamp (show q + 3 < 2 ^ 31 by omega), nI_clamp (show q + 4 < 2 ^ 31 by omega), nI_clamp (show q + 5 < 2 ^ 31 by omega), r0, r1, r2, r3, r4, r5, w1, w2] at vb vn vl vm htq htn ⊢
      rw [vb, vn, vl, vm, htq, htn]
      rfl
  cases hqf : q_ff ts (h_os xs ys R) rp (h_ob hk R f) (h_oe hk R f) ((h_ob hk R f : Int) + sf) 11 0 with
  | none =>
    rw [hqf] at hall
    dsimp only
    rw [un, hall]
    rfl
  | some p =>
    rw [hqf] at hall
    dsimp only
    obtain ⟨b1, b2, b3⟩ := q_ff_ok 11 0 p hqf
    obtain ⟨k, rfl⟩ : ∃ k : Nat, p = (k : Int) := ⟨p.toNat, by omega⟩
    rw [un, hall]
    dsimp only [Option.bind]
    obtain ⟨M1, c1, c2, c3⟩ := m_goesDoc hy hr (b := rp) (e := k) (by omega) (by omega) hD hO (by omega)
    rw [h58, nZ_n, c1]
    dsimp only
    rw [nI_add, show h_ob hk (!R) f + (h_oe hk (!R) f - h_ob hk (!R) f) = h_oe hk (!R) f by omega]
    have sl1 := l_seg_len (ys := ts) (b := rp) (e := k) (by omega)
    obtain ⟨M2, d1, d2, d3⟩ := m_goes (M := M1) hy htn9 hl2 (by decide) hns (b := h_ob hk (!R) f) (e := h_oe hk (!R) f) o2.1 (by rw [hnl]; exact o2.2.1) (hq2.eq (c2.arr (by simp; omega) htn9.2)) c3 (by
      rw [List.length_append, sl1]
      have h9 : (if !R then ys.length else xs.length) ≤ 24 := by split <;> assumption
      have := o2.2.1
      omega)
    rw [d1]
    dsimp only [lt_]
    rw [nI_2a, show nI (2 * i) + (1 : Int32) = nI (2 * i + 1) from nI_add _ 1, if_pos (j_g_nI (by omega) (by omega)), if_pos (j_g_nI (by omega) (by omega)), nI_clamp (by omega), nI_clamp (by omega), nI_add]
    have f3 : MF om [] [58] M2 (j_up M2 om 58 (nI (k + (h_oe hk R f - h_ob hk R f)))) := MF.uf
    have f4 : MF om [] [59] (j_up M2 om 58 (nI (k + (h_oe hk R f - h_ob hk R f)))) (j_up (j_up M2 om 58 (nI (k + (h_oe hk R f - h_ob hk R f)))) om 59 (nI k - nI (h_ob hk R f))) := MF.uf
    obtain ⟨M4, hM4⟩ : ∃ z, z = j_up (j_up M2 om 58 (nI (k + (h_oe hk R f - h_ob hk R f)))) om 59 (nI k - nI (h_ob hk R f)) := ⟨_, rfl⟩
    rw [← hM4] at f4 ⊢
    have f5 : MF om [33] [] M4 (j_up M4 (om + 33) (2 * i) (nI k)) := MF.ua
    have f6 : MF om [33] [] (j_up M4 (om + 33) (2 * i) (nI k)) (j_up (j_up M4 (om + 33) (2 * i) (nI k)) (om + 33) (2 * i + 1) (nI f)) := MF.ua
    have f56 : MF om [33] [] M4 (j_up (j_up M4 (om + 33) (2 * i) (nI k)) (om + 33) (2 * i + 1) (nI f)) := f5.trans f6
    have f34 : MF om [] [58, 59] M2 M4 := (f3.mono (by simp) (by simp)).trans (f4.mono (by simp) (by simp))
    have F4 : MF om [9] [18, 58, 59] M M4 := ((c2.mono (by simp) (by simp)).trans (d2.mono (by simp) (by simp))).trans (f34.mono (by simp) (by simp))
    refine ⟨_, rfl, (F4.mono (by simp) (by simp)).trans (f56.mono (by simp) (by simp)), ?_, ?_, ?_, ?_⟩
    · rw [f56.fld (by decide) (by decide), f4.fld (by decide) (by decide), j_up_s, Int.toNat_natCast]
    · rw [f56.fld (by decide) (by decide), hM4, j_up_s, ← nZ_n, ← nZ_n, nZ_sub]
    · rw [Int.toNat_natCast]
      have F := (f34.mono (A' := [33]) (F' := [58, 59]) (by simp) (by simp)).trans (f56.mono (by simp) (by simp))
      exact ⟨by rw [F.fld (by decide) (by decide)]; exact d3.1, d3.2.eq (F.arr (t := 9) (by decide) (by decide))⟩
    · have hC4 := hC.eq (F4.arr (t := 33) (by decide) (by decide))
      intro i' hi' j' hj'
      by_cases e : i' < tr.length
      · rw [t_at_app e, j_up_k (by omega), j_up_k (by omega)]
        have := hC4 i' (by rw [List.length_append]; omega) j' hj'
        rw [t_at_app e] at this
        exact this
      · have e2 : i' = tr.length := by
          rw [List.length_append] at hi'
          simp at hi'
          omega
        rw [e2, t_at_last, htl, nZ_n]
        rcases (show j' = 0 ∨ j' = 1 by omega) with e | e
        · subst e
          rw [j_up_k (by omega)]
          show _ = j_up M4 (om + 33) (2 * i) (nI k) (om + 33) (2 * i)
          rw [j_up_s]
          rfl
        · subst e
          rw [j_up_s]
          rfl
theorem m_apply2 (hy : MdAt Y om) {r : Nat} (hr : r < 4) (hD : DR M om r ts) (hT : TBm M (om + 29) 6 (hs.map h_row)) (hlen : hs.length ≤ 25) (hx24 : xs.length ≤ 24) (hy24 : ys.length ≤ 24) (hX : RA M (om + 30) xs) (hY : RA M (om + 31) ys) {i : Nat} {hk : HK} (hh : hs[i]? = some hk) (hv : HV xs.length ys.length hk) (rv : Int32) {rp : Nat} (h58 : M om 58 = nI rp) (hrp : rp ≤ ts.length) {sf : Int} (h59 : M om 59 = nZ sf) (hsf : -100 ≤ sf ∧ sf ≤ 100) (hO : OT M om acc) (hal : acc.length ≤ 1900) (htl : tr.length = i) (hC : TBm M (om + 33) 2 (tr ++ [[-1, -1]])) {fz : Nat} (hfz : fz ≤ 2) :
    ∀ (d f n : Nat), fz + 1 = f + d → d + 1 < n → match q_try ts (h_os xs ys (decide (rv ≠ 0))) hk (decide (rv ≠ 0)) rp sf d f with
    | none => lp_X10_apply_2 Y (nI fz) om (nI r) (nI i) rv n 0 (nI f) M = some (0, M)
    | some (f', p) => ∃ M', lp_X10_apply_2 Y (nI fz) om (nI r) (nI i) rv n 0 (nI f) M = some (1, M') ∧ AUm M M' om ts (h_os xs ys (!decide (rv ≠ 0))) acc tr rp hk (decide (rv ≠ 0)) f' p := by
  intro d
  induction d with
  | zero =>
    intro f n hf hn
    obtain ⟨n, rfl⟩ : ∃ z, n = z + 1 := ⟨n - 1, by omega⟩
    show lp_X10_apply_2 Y (nI fz) om (nI r) (nI i) rv (n + 1) 0 (nI f) M = some (0, M)
    unfold lp_X10_apply_2
    rw [if_pos (Or.inl (nI_lt (by omega) (by omega)))]
  | succ d ih =>
    intro f n hf hn
    obtain ⟨n, rfl⟩ : ∃ z, n = z + 1 := ⟨n - 1, by omega⟩
    have ha := m_applies hy hr hD hT hlen hx24 hy24 hX hY hh hv rv h58 hrp h59 hsf hO hal htl hC (f := f) (by omega)
    have e0 : ¬ (nI fz < nI f ∨ ¬ (0 : Int32) = 0) := by
      rintro (c | c)
      · exact nI_nlt (by omega) (by omega) c
      · exact c rfl
    unfold q_try
    cases hq : q_ff ts (h_os xs ys (decide (rv ≠ 0))) rp (h_ob hk (decide (rv ≠ 0)) f) (h_oe hk (decide (rv ≠ 0)) f) ((h_ob hk (decide (rv ≠ 0)) f : Int) + sf) 11 0 with
    | none =>
      rw [hq] at ha
      dsimp only at ha ⊢
      unfold lp_X10_apply_2
      rw [if_neg e0, ha]
      dsimp only [Option.bind, lt_]
      rw [nI_1]
      exact ih (f + 1) n (by omega) (by omega)
    | some p =>
      rw [hq] at ha
      dsimp only at ha ⊢
      obtain ⟨M', a1, a2⟩ := ha
      refine ⟨M', ?_, a2⟩
      obtain ⟨n, rfl⟩ : ∃ z, n = z + 1 := ⟨n - 1, by omega⟩
      unfold lp_X10_apply_2
      rw [if_neg e0, a1]
      dsimp only [Option.bind, lt_]
      unfold lp_X10_apply_2
      rw [if_pos (Or.inr (by decide))]
end PAM

/-! ===== pure: patches; the model's apply as a whole ===== -/
theorem k_many_app {tr : List (List Int32)} {r : List Int32} : k_many (tr ++ [r]) = k_many tr + (if (r[0]?).getD (-1) = (-1 : Int32) then 0 else 1) := by
  induction tr with
  | nil =>
    show (if (r[0]?).getD (-1) = (-1 : Int32) then 0 else 1) + 0 = 0 + _
    omega
  | cons x tr ih =>
    show (if (x[0]?).getD (-1) = (-1 : Int32) then 0 else 1) + k_many (tr ++ [r]) = (if (x[0]?).getD (-1) = (-1 : Int32) then 0 else 1) + k_many tr + _
    rw [ih]
    omega
theorem k_many_le (tr : List (List Int32)) : k_many tr ≤ tr.length := by
  induction tr with
  | nil => exact Nat.le_refl _
  | cons x tr ih =>
    show (if (x[0]?).getD (-1) = (-1 : Int32) then 0 else 1) + k_many tr ≤ tr.length + 1
    split <;> omega
section PAW
variable {Y : JY} {M : JM} {om : Nat} {xs ys ts acc : List Int32} {hs : List HK} {tr : List (List Int32)}
def TAm (M : JM) (om : Nat) (st : AS) : Prop := M om 58 = nI st.1 ∧ M om 59 = nZ st.2.1 ∧ OT M om st.2.2.1 ∧ TBm M (om + 33) 2 st.2.2.2
theorem m_apply1 (hy : MdAt Y om) {r : Nat} (hr : r < 4) (hlen : hs.length ≤ 25) (hx24 : xs.length ≤ 24) (hy24 : ys.length ≤ 24) (rv : Int32) {fz : Nat} (hfz : fz ≤ 2) :
    ∀ (d i n : Nat) (M : JM) (st : AS) (pa pb : Nat), hs.length = i + d → d < n → M om 53 = nI hs.length → DR M om r ts → TBm M (om + 29) 6 (hs.map h_row) → RA M (om + 30) xs → RA M (om + 31) ys → TAm M om st → AI ts (if decide (rv ≠ 0) then pa else pb) i st → HC xs.length ys.length pa pb (hs.drop i) →
      ∃ M', lp_X10_apply_1 Y om (nI fz) (nI r) rv n (nI (k_many st.2.2.2)) (nI i) M = some (nI (k_many (q_att ts (h_os xs ys (decide (rv ≠ 0))) (h_os xs ys (!decide (rv ≠ 0))) (decide (rv ≠ 0)) fz (hs.drop i) st).2.2.2), M') ∧ MF om [9, 33] [18, 58, 59] M M' ∧ TAm M' om (q_att ts (h_os xs ys (decide (rv ≠ 0))) (h_os xs ys (!decide (rv ≠ 0))) (decide (rv ≠ 0)) fz (hs.drop i) st) ∧
        AI ts 24 hs.length (q_att ts (h_os xs ys (decide (rv ≠ 0))) (h_os xs ys (!decide (rv ≠ 0))) (decide (rv ≠ 0)) fz (hs.drop i) st) := by
  have e60 : j_rf Y om 60 = om + 33 := (hy (60, 33, 50) (by decide)).1
  have l60 : j_ln Y (om + 33) = 50 := (hy (60, 33, 50) (by decide)).2
  intro d
  induction d with
  | zero =>
    intro i n M st pa pb hi hn h53 hD hT hX hY hS hI hC
    obtain ⟨n, rfl⟩ : ∃ z, n = z + 1 := ⟨n - 1, by omega⟩
    have ei : hs.length = i := by omega
    rw [List.drop_eq_nil_of_le (by omega)] at hC ⊢
    refine ⟨M, ?_, MF.refl, hS, hI.1, hI.2.1, ?_, by rw [ei]; exact hI.2.2.2⟩
    · unfold lp_X10_apply_1
      rw [h53, if_pos (nI_le (by omega) (by omega))]
      rfl
    · refine Nat.le_trans hI.2.2.1 (Nat.add_le_add_left ?_ _)
      have c1 := hC.1
      have c2 := hC.2
      split <;> omega
  | succ d ih =>
    intro i n M st pa pb hi hn h53 hD hT hX hY hS hI hC
    obtain ⟨n, rfl⟩ : ∃ z, n = z + 1 := ⟨n - 1, by omega⟩
    have ht24 := hD.2.1
    have hil : i < hs.length := by omega
    have e := List.drop_eq_getElem_cons hil
    obtain ⟨h, hh⟩ : ∃ z, z = hs[i] := ⟨_, rfl⟩
    have hhi : hs[i]? = some h := by rw [List.getElem?_eq_getElem hil, hh]
    rw [← hh] at e
    rw [e] at hC ⊢
    obtain ⟨⟨c1, c2⟩, ⟨c3, c4⟩, c5, c6, c7⟩ := hC
    have hv : HV xs.length ys.length h := ⟨c2, c4, c5, c6⟩
    obtain ⟨s1, s2, s3, s4⟩ := hS
    have hI' := hI
    obtain ⟨i1, i2, i3, i4⟩ := hI
    have hpb : (if decide (rv ≠ 0) then pa else pb) ≤ 24 := by split <;> omega
    have f1 : MF om [33] [] M (j_up M (om + 33) (2 * i) (-1)) := MF.ua
    have f2 : MF om [33] [] (j_up M (om + 33) (2 * i) (-1)) (j_up (j_up M (om + 33) (2 * i) (-1)) (om + 33) (2 * i + 1) (-1)) := MF.ua
    obtain ⟨M2, hM2⟩ : ∃ z, z = j_up (j_up M (om + 33) (2 * i) (-1)) (om + 33) (2 * i + 1) (-1) := ⟨_, rfl⟩
    have F2 : MF om [33] [] M M2 := by rw [hM2]; exact f1.trans f2
    have hC2 : TBm M2 (om + 33) 2 (st.2.2.2 ++ [[-1, -1]]) := by
      intro i' hi' j' hj'
      by_cases e : i' < st.2.2.2.length
      · rw [t_at_app e, hM2, j_up_k (by omega), j_up_k (by omega)]
        exact s4 i' e j' hj'
      · have e2 : i' = st.2.2.2.length := by
          rw [List.length_append] at hi'
          simp at hi'
          omega
        rw [e2, t_at_last, i4]
        rcases (show j' = 0 ∨ j' = 1 by omega) with e | e
        · subst e
          rw [hM2, j_up_k (by omega)]
          show _ = j_up M (om + 33) (2 * i) (-1) (om + 33) (2 * i)
          rw [j_up_s]
          rfl
        · subst e
          rw [hM2, j_up_s]
          rfl
    have h2 := m_apply2 (M := M2) hy hr (hD.eq (F2.arr (t := 1) (by decide) (by decide)) (F2.arr (t := 2) (by decide) (by decide))) (hT.eq (F2.arr (t := 29) (by decide) (by decide))) hlen hx24 hy24 (hX.eq (F2.arr (t := 30) (by decide) (by decide))) (hY.eq (F2.arr (t := 31) (by decide) (by decide))) hhi hv rv (rp := st.1) (sf := st.2.1) (acc := st.2.2.1) (tr := st.2.2.2)
      (by rw [F2.fld (by decide) (by decide)]; exact s1) i1 (by rw [F2.fld (by decide) (by decide)]; exact s2) i2 ⟨by rw [F2.fld (by decide) (by decide)]; exact s3.1, s3.2.eq (F2.arr (t := 9) (by decide) (by decide))⟩ (by omega) i4 hC2 hfz (fz + 1) 0 j_fuel (by omega) (by unfold j_fuel; omega)
    have hI2 := q_as_AI (os := h_os xs ys (decide (rv ≠ 0))) (ns := h_os xs ys (!decide (rv ≠ 0))) (rv := decide (rv ≠ 0)) (fz := fz) hv hx24 hy24 ht24 (by split <;> assumption) hI'
    have hkm := k_many_le st.2.2.2
    rw [i4] at hkm
    have key : ∃ v M3, lp_X10_apply_2 Y (nI fz) om (nI r) (nI i) rv j_fuel 0 0 M2 = some (v, M3) ∧ MF om [9, 33] [18, 58, 59] M M3 ∧ TAm M3 om (q_as ts (h_os xs ys (decide (rv ≠ 0))) (h_os xs ys (!decide (rv ≠ 0))) (decide (rv ≠ 0)) fz h st) ∧
        nI (k_many st.2.2.2) + (if v = 0 then (0 : Int32) else 1) = nI (k_many (q_as ts (h_os xs ys (decide (rv ≠ 0))) (h_os xs ys (!decide (rv ≠ 0))) (decide (rv ≠ 0)) fz h st).2.2.2) := by
      rw [nI_0] at h2
      unfold q_as
      cases hq : q_try ts (h_os xs ys (decide (rv ≠ 0))) h (decide (rv ≠ 0)) st.1 st.2.1 (fz + 1) 0 with
      | none =>
        rw [hq] at h2
        dsimp only at h2 ⊢
        refine ⟨0, M2, h2, F2.mono (by simp) (by simp), ⟨by rw [F2.fld (by decide) (by decide)]; exact s1, by rw [F2.fld (by decide) (by decide)]; exact s2, ⟨by rw [F2.fld (by decide) (by decide)]; exact s3.1, s3.2.eq (F2.arr (t := 9) (by decide) (by decide))⟩, hC2⟩, ?_⟩
        have h00 : (([-1, -1] : List Int32)[0]?).getD (-1) = (-1 : Int32) := rfl
        rw [if_pos rfl, k_many_app, if_pos h00, Int32.add_zero]
        rfl
      | some fp =>
        obtain ⟨f, p⟩ := fp
        rw [hq] at h2
        dsimp only at h2 ⊢
        obtain ⟨M3, a1, a2, a3, a4, a5, a6⟩ := h2
        obtain ⟨⟨w1, w2, w3⟩, -, -⟩ := q_try_ok (fz + 1) 0 f p hq
        have ob := hv.ob (decide (rv ≠ 0)) f
        refine ⟨1, M3, a1, (F2.mono (by simp) (by simp)).trans a2, ⟨a3, a4, a5, a6⟩, ?_⟩
        have hnz : ¬ ((([nZ p, nI f] : List Int32)[0]?).getD (-1) = (-1 : Int32)) := nZ_m1 (by omega)
        rw [if_neg (by decide), k_many_app, if_neg hnz, nI_1]
    obtain ⟨v, M3, k1, k2, k3, k4⟩ := key
    obtain ⟨M', b1, b2, b3, b4⟩ := ih (i + 1) n M3 _ (h.1 + h.2.1) (h.2.2.1 + h.2.2.2.1) (by omega) (by omega) (by rw [k2.fld (by decide) (by decide)]; exact h53) (hD.eq (k2.arr (t := 1) (by decide) (by decide)) (k2.arr (t := 2) (by decide) (by decide))) (hT.eq (k2.arr (t := 29) (by decide) (by decide))) (hX.eq (k2.arr (t := 30) (by decide) (by decide))) (hY.eq (k2.arr (t := 31) (by decide) (by decide))) k3 hI2 c7
    refine ⟨M', ?_, k2.trans b2, b3, b4⟩
    unfold lp_X10_apply_1
    rw [h53, if_neg (nI_ge (by omega) (by omega)), nI_2a, show nI (2 * i) + (1 : Int32) = nI (2 * i + 1) from nI_add _ 1, e60, l60]
    dsimp only [lt_]
    rw [if_pos (j_g_nI (by omega) (by omega)), if_pos (j_g_nI (by omega) (by omega)), nI_clamp (by omega), nI_clamp (by omega), ← hM2, k1]
    dsimp only [Option.bind]
    rw [k4, nI_1]
    exact b1
theorem m_apply3 (hy : MdAt Y om) {H : Nat} (hH : H ≤ 25) : ∀ (d i n : Nat) (M : JM), 2 * H = i + d → d < n → M om 53 = nI H → (∀ t, t < i → M (om + 32) t = M (om + 33) t) → ∃ M', lp_X10_apply_3 Y om n (nI i) M = some M' ∧ MF om [32] [] M M' ∧ ∀ t, t < 2 * H → M' (om + 32) t = M (om + 33) t := by
  have e57 : j_rf Y om 57 = om + 32 := (hy (57, 32, 50) (by decide)).1
  have l57 : j_ln Y (om + 32) = 50 := (hy (57, 32, 50) (by decide)).2
  have e60 : j_rf Y om 60 = om + 33 := (hy (60, 33, 50) (by decide)).1
  have l60 : j_ln Y (om + 33) = 50 := (hy (60, 33, 50) (by decide)).2
  intro d
  induction d with
  | zero =>
    intro i n M hi hn h53 h
    obtain ⟨n, rfl⟩ : ∃ z, n = z + 1 := ⟨n - 1, by omega⟩
    refine ⟨M, ?_, MF.refl, fun t ht => h t (by omega)⟩
    unfold lp_X10_apply_3
    rw [h53, nI_2a, if_pos (nI_le (by omega) (by omega))]
  | succ d ih =>
    intro i n M hi hn h53 h
    obtain ⟨n, rfl⟩ : ∃ z, n = z + 1 := ⟨n - 1, by omega⟩
    have f1 : MF om [32] [] M (j_up M (om + 32) i (M (om + 33) i)) := MF.ua
    obtain ⟨M', a1, a2, a3⟩ := ih (i + 1) n (j_up M (om + 32) i (M (om + 33) i)) (by omega) (by omega) (by rw [f1.fld (by decide) (by decide)]; exact h53) (fun t ht => by
      rw [f1.arr (t := 33) (by decide) (by decide)]
      by_cases e : t = i
      · rw [e, j_up_s]
      · rw [j_up_k e]
        exact h t (by omega))
    refine ⟨M', ?_, f1.trans a2, fun t ht => by rw [a3 t ht, f1.arr (t := 33) (by decide) (by decide)]⟩
    have g : j_g (nI i) 50 := j_g_nI (by omega) (by omega)
    unfold lp_X10_apply_3
    rw [h53, nI_2a, if_neg (nI_ge (by omega) (by omega)), e57, l57, e60, l60, if_pos g, if_pos g, nI_clamp (by omega), nI_1]
    exact a1
theorem m_apply (hy : MdAt Y om) {ds : Nat → List Int32} {ks : List (Nat × List Int32)} {kp : List (List Int32)} (hD : DM M om ds) (hH : HM M om ks) (hP : PCm M om true xs ys hs kp) {r : Nat} (hr : r < 4) {fz : Nat} (hfz : fz ≤ 2) (rv : Int32) :
    ∃ M', MF om [1, 2, 4, 5, 6, 9, 32, 33] [0, 10, 18, 56, 58, 59] M M' ∧
      if (q_done (ds r) xs ys hs (decide (rv ≠ 0)) fz).length ≤ 24 then s_X10_apply Y M om (nI r) (nI fz) rv = some (nI (k_many (q_patch (ds r) xs ys hs (decide (rv ≠ 0)) fz).2.2.2), M') ∧ M' om 0 = 0 ∧ DM M' om (f_up ds r (q_done (ds r) xs ys hs (decide (rv ≠ 0)) fz)) ∧ HM M' om (((r, ds r) :: ks).take 8) ∧ PCm M' om true xs ys hs (q_patch (ds r) xs ys hs (decide (rv ≠ 0)) fz).2.2.2
      else s_X10_apply Y M om (nI r) (nI fz) rv = some (0, M') ∧ M' om 0 = 3 ∧ DM M' om ds ∧ HM M' om ks ∧ PCm M' om true xs ys hs kp := by
  have e2 : j_rf Y om 2 = om + 2 := (hy (2, 2, 4) (by decide)).1
  have l2 : j_ln Y (om + 2) = 4 := (hy (2, 2, 4) (by decide)).2
  have e15 : j_rf Y om 15 = om + 9 := (hy (15, 9, 2000) (by decide)).1
  have l15 : j_ln Y (om + 9) = 2000 := (hy (15, 9, 2000) (by decide)).2
  have hP' := hP
  obtain ⟨p1, p2, p3⟩ := hP
  obtain ⟨⟨q1, q2, q3, q4⟩, q5, q6, q7, q8, q9⟩ := p3 rfl
  have ht24 := (hD.dr hr).2.1
  have f1 : MF om [] [58] M (j_up M om 58 0) := MF.uf
  have f2 : MF om [] [59] (j_up M om 58 0) (j_up (j_up M om 58 0) om 59 0) := MF.uf
  have f3 : MF om [] [18] (j_up (j_up M om 58 0) om 59 0) (j_up (j_up (j_up M om 58 0) om 59 0) om 18 0) := MF.uf
  have F3 : MF om [] [18, 58, 59] M (j_up (j_up (j_up M om 58 0) om 59 0) om 18 0) := ((f1.mono (by simp) (by simp)).trans (f2.mono (by simp) (by simp))).trans (f3.mono (by simp) (by simp))
  obtain ⟨M4, a1, a2, a3, a4⟩ := m_apply1 hy (ts := ds r) (hs := hs) hr q4 q1 q2 rv hfz hs.length 0 j_fuel (j_up (j_up (j_up M om 58 0) om 59 0) om 18 0) (0, 0, [], []) 0 0 (by omega) (j_fuel_gt (by omega)) (by rw [F3.fld (by decide) (by decide)]; exact q5) ((hD.dr hr).eq (F3.arr (t := 1) (by decide) (by decide)) (F3.arr (t := 2) (by decide) (by decide))) (q6.eq (F3.arr (t := 29) (by decide) (by decide))) (q7.eq (F3.arr (t := 30) (by decide) (by decide))) (q8.eq (F3.arr (t := 31) (by decide) (by decide)))
    ⟨by rw [f3.fld (by decide) (by decide), f2.fld (by decide) (by decide), j_up_s]; rfl, by rw [f3.fld (by decide) (by decide), j_up_s]; rfl, ⟨by rw [j_up_s]; rfl, fun i hi => absurd hi (Nat.not_lt_zero _)⟩, fun i hi => absurd hi (Nat.not_lt_zero _)⟩ ⟨Nat.zero_le _, by decide, by split <;> exact Nat.zero_le _, rfl⟩ q3
  have a5 : TAm M4 om (q_patch (ds r) xs ys hs (decide (rv ≠ 0)) fz) := a3
  have a6 : AI (ds r) 24 hs.length (q_patch (ds r) xs ys hs (decide (rv ≠ 0)) fz) := a4
  have a7 : lp_X10_apply_1 Y om (nI fz) (nI r) rv j_fuel 0 0 (j_up (j_up (j_up M om 58 0) om 59 0) om 18 0) = some (nI (k_many (q_patch (ds r) xs ys hs (decide (rv ≠ 0)) fz).2.2.2), M4) := by
    have := a1
    rw [nI_0] at this
    exact this
  obtain ⟨st, hst⟩ : ∃ z, z = q_patch (ds r) xs ys hs (decide (rv ≠ 0)) fz := ⟨_, rfl⟩
  have hdone : q_done (ds r) xs ys hs (decide (rv ≠ 0)) fz = st.2.2.1 ++ l_seg (ds r) st.1 (ds r).length := by
    unfold q_done
    rw [← hst]
  obtain ⟨D, hDn⟩ : ∃ z, z = q_done (ds r) xs ys hs (decide (rv ≠ 0)) fz := ⟨_, rfl⟩
  rw [← hst] at a5 a6 a7 ⊢
  rw [← hDn] at hdone ⊢
  have F4 : MF om [9, 33] [18, 58, 59] M M4 := (F3.mono (by simp) (by simp)).trans a2
  have hD4 : DM M4 om ds := hD.eq (F4.arr (t := 1) (by decide) (by decide)) (F4.arr (t := 2) (by decide) (by decide))
  have i1 := a6.1
  have i3 := a6.2.2.1
  obtain ⟨M5, b1, b2, b3⟩ := m_goesDoc hy hr (b := st.1) (e := (ds r).length) i1 (Nat.le_refl _) (hD4.dr hr) a5.2.2.1 (by omega)
  rw [← hdone] at b3
  have F5 : MF om [9, 33] [18, 58, 59] M M5 := F4.trans (b2.mono (by simp) (by simp))
  have pre : s_X10_apply Y M om (nI r) (nI fz) rv = (if (M5 om 18) ≤ (24 : Int32) then ((lp_X10_apply_3 Y om j_fuel (0 : Int32) M5).bind fun xx63 => lt_ (j_up xx63 om 56 (1 : Int32)) fun mm58 => (s_X10_remembers Y mm58 om (nI r)).bind fun xx59 => (s_X10_holds Y xx59 om (nI r) (om + 9) (xx59 om 18)).bind fun xx61 => lt_ (s_X10_done Y xx61 om (nI (k_many st.2.2.2))) fun xx62 => some (xx62.1, xx62.2)) else (lt_ (s_X10_fails Y M5 om (3 : Int32)) fun xx64 => some (xx64.1, xx64.2))) := by
    unfold s_X10_apply
    have i2 : ¬ s_X10_in Y M (nI fz) 0 (2 : Int32) = 0 := by
      rw [m_in, show (2 : Int32) = nI 2 from rfl]
      rintro (c | c)
      · exact nI_pos (by omega) c
      · exact nI_nlt (by omega) (by omega) c
    rw [if_neg (by rintro (c | c); exact m_isRegT hr c; exact i2 c), p1, if_neg (by decide)]
    dsimp only [lt_]
    rw [a7]
    dsimp only [Option.bind]
    rw [e2, l2, if_pos (j_g_nI hr (by omega)), nI_clamp (by omega), a5.1, (hD4.dr hr).1, b1, e15]
  have h18 := b3.1
  have hDl : D.length ≤ 100 := by
    have := l_seg_le (xs := ds r) (b := st.1) (e := (ds r).length)
    rw [hdone, List.length_append]
    omega
  by_cases c : D.length ≤ 24
  · obtain ⟨M6, c1, c2, c3⟩ := m_apply3 hy q4 (2 * hs.length) 0 j_fuel M5 (by omega) (j_fuel_gt (by omega)) (by rw [F5.fld (by decide) (by decide)]; exact q5) (fun t ht => absurd ht (Nat.not_lt_zero _))
    have f7 : MF om [] [56] M6 (j_up M6 om 56 1) := MF.uf
    have F7 : MF om [9, 32, 33] [18, 56, 58, 59] M (j_up M6 om 56 1) := ((F5.mono (by simp) (by simp)).trans (c2.mono (by simp) (by simp))).trans (f7.mono (by simp) (by simp))
    have G7 : MF om [32] [56] M5 (j_up M6 om 56 1) := (c2.mono (by simp) (by simp)).trans (f7.mono (by simp) (by simp))
    have hD7 : DM (j_up M6 om 56 1) om ds := hD.eq (F7.arr (t := 1) (by decide) (by decide)) (F7.arr (t := 2) (by decide) (by decide))
    obtain ⟨M8, d1, d2, d3⟩ := m_remembers hy (hH.fr F7 (by decide) (by decide) (by decide)) hr (hD7.dr hr)
    have hD8 : DM M8 om ds := hD7.eq (d2.arr (t := 1) (by decide) (by decide)) (d2.arr (t := 2) (by decide) (by decide))
    have o18 : M8 om 18 = nI D.length := by rw [d2.fld (by decide) (by decide), G7.fld (by decide) (by decide)]; exact h18
    obtain ⟨M9, x1, x2, x3⟩ := m_holds hy hr (tq := 9) (by decide) l15 (by decide) (xs := D) (by omega) c ((b3.2.eq (G7.arr (t := 9) (by decide) (by decide))).eq (d2.arr (t := 9) (by decide) (by decide))) hD8
    have f10 : MF om [] [0] M9 (j_up M9 om 0 0) := MF.uf
    have F10 : MF om [1, 2, 4, 5, 6] [0, 10] (j_up M6 om 56 1) (j_up M9 om 0 0) := ((d2.mono (by simp) (by simp)).trans (x2.mono (by simp) (by simp))).trans (f10.mono (by simp) (by simp))
    refine ⟨j_up M9 om 0 0, (F7.mono (by simp) (by simp)).trans (F10.mono (by simp) (by simp)), ?_⟩
    rw [if_pos c]
    refine ⟨?_, j_up_s, x3.eq (f10.arr (t := 1) (by decide) (by decide)) (f10.arr (t := 2) (by decide) (by decide)), ((d3.fr x2 (by decide) (by decide) (by decide)).fr f10 (by decide) (by decide) (by decide)), ?_, (fun e => absurd e (by decide)), fun _ => ⟨⟨q1, q2, q3, q4⟩, ?_, ?_, ?_, ?_, Or.inr ⟨?_, ?_, ?_⟩⟩⟩
    · rw [pre, h18, if_pos (by rw [show (24 : Int32) = nI 24 from rfl]; exact nI_le c (by omega))]
      rw [nI_0] at c1
      rw [c1]
      dsimp only [Option.bind, lt_]
      rw [d1]
      dsimp only
      rw [o18, x1]
      rfl
    · rw [F10.fld (by decide) (by decide), F7.fld (by decide) (by decide)]; exact p1
    · rw [F10.fld (by decide) (by decide), F7.fld (by decide) (by decide)]; exact q5
    · exact (q6.eq (F7.arr (t := 29) (by decide) (by decide))).eq (F10.arr (t := 29) (by decide) (by decide))
    · exact (q7.eq (F7.arr (t := 30) (by decide) (by decide))).eq (F10.arr (t := 30) (by decide) (by decide))
    · exact (q8.eq (F7.arr (t := 31) (by decide) (by decide))).eq (F10.arr (t := 31) (by decide) (by decide))
    · rw [F10.fld (by decide) (by decide), j_up_s]
    · exact a6.2.2.2
    · have h9 := a5.2.2.2.eq (b2.arr (t := 33) (by decide) (by decide))
      intro i hi j hj
      have hil := a6.2.2.2
      rw [F10.arr (t := 32) (by decide) (by decide), f7.arr (t := 32) (by decide) (by decide), c3 _ (by omega)]
      exact h9 i hi j hj
  · have f6 : MF om [] [0] M5 (j_up M5 om 0 3) := MF.uf
    have F6 : MF om [9, 33] [0, 18, 58, 59] M (j_up M5 om 0 3) := (F5.mono (by simp) (by simp)).trans (f6.mono (by simp) (by simp))
    refine ⟨j_up M5 om 0 3, F6.mono (by simp) (by simp), ?_⟩
    rw [if_neg c]
    refine ⟨?_, j_up_s, hD.eq (F6.arr (t := 1) (by decide) (by decide)) (F6.arr (t := 2) (by decide) (by decide)), hH.fr F6 (by decide) (by decide) (by decide), hP'.fr F6 (by decide) (by decide) (by decide)⟩
    rw [pre, h18, if_neg (by rw [show (24 : Int32) = nI 24 from rfl]; exact nI_ge (by omega) (by omega))]
    rfl
end PAW

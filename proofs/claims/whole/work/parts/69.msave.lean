/-! ===== pure: the model's undo, save, restore ===== -/
section DOS
variable {Y : JY} {M : JM} {om : Nat} {ds : Nat → List Int32} {hs : List (Nat × List Int32)}
theorem m_undo_loop (hy : MdAt Y om) {r kp : Nat} (hr : r < 4) (hkp : kp < 8) : ∀ (d i n : Nat) (M : JM), 24 = i + d → d < n → M om 10 = nI kp → (∀ t, t < i → M (om + 1) (24 * r + t) = M (om + 6) (24 * kp + t)) →
      ∃ M', lp_X10_undo_1 Y om (nI r) n (nI i) M = some M' ∧ MF om [1] [] M M' ∧ (∀ t, t < 24 → M' (om + 1) (24 * r + t) = M (om + 6) (24 * kp + t)) ∧ ∀ t, (t < 24 * r ∨ 24 * r + 24 ≤ t) → M' (om + 1) t = M (om + 1) t := by
  have e9 : j_rf Y om 9 = om + 6 := (hy (9, 6, 192) (by decide)).1
  have l9 : j_ln Y (om + 6) = 192 := (hy (9, 6, 192) (by decide)).2
  have e1 : j_rf Y om 1 = om + 1 := (hy (1, 1, 96) (by decide)).1
  have l1 : j_ln Y (om + 1) = 96 := (hy (1, 1, 96) (by decide)).2
  intro d
  induction d with
  | zero =>
    intro i n M hi hn h10 h1
    obtain ⟨n, rfl⟩ : ∃ z, n = z + 1 := ⟨n - 1, by omega⟩
    refine ⟨M, ?_, MF.refl, fun t ht => h1 t (by omega), fun t _ => rfl⟩
    unfold lp_X10_undo_1
    rw [if_pos (by rw [show (24 : Int32) = nI 24 from rfl]; exact nI_le (by omega) (by omega))]
  | succ d ih =>
    intro i n M hi hn h10 h1
    obtain ⟨n, rfl⟩ : ∃ z, n = z + 1 := ⟨n - 1, by omega⟩
    have f1 : MF om [1] [] M (j_up M (om + 1) (24 * r + i) (M (om + 6) (24 * kp + i))) := MF.ua
    obtain ⟨M', a1, a2, a3, a4⟩ := ih (i + 1) n (j_up M (om + 1) (24 * r + i) (M (om + 6) (24 * kp + i))) (by omega) (by omega) (by rw [f1.fld (by decide) (by decide)]; exact h10) (fun t ht => by
        rw [f1.arr (t := 6) (by decide) (by decide)]
        by_cases e : t = i
        · rw [e, j_up_s]
        · rw [j_up_k (by omega)]
          exact h1 t (by omega))
    refine ⟨M', ?_, f1.trans a2, fun t ht => ?_, fun t ht => ?_⟩
    · have e24 : ¬ (24 : Int32) ≤ nI i := by rw [show (24 : Int32) = nI 24 from rfl]; exact nI_ge (by omega) (by omega)
      have g1 : j_g (nI (24 * r + i)) 96 := j_g_nI (by omega) (by omega)
      have g2 : j_g (nI (24 * kp + i)) 192 := j_g_nI (by omega) (by omega)
      unfold lp_X10_undo_1
      rw [if_neg e24, h10, nI_24, nI_24, e9, l9, e1, l1, if_pos g2, if_pos g1, nI_clamp (by omega), nI_clamp (by omega), nI_1]
      exact a1
    · rw [a3 t ht, f1.arr (t := 6) (by decide) (by decide)]
    · rw [a4 t ht, j_up_k (by omega)]
theorem m_undo (hy : MdAt Y om) (hD : DM M om ds) {r : Nat} {xs : List Int32} (hH : HM M om ((r, xs) :: hs)) :
    ∃ M', s_X10_undo Y M om = some (nI r, M') ∧ MF om [1, 2] [0, 10] M M' ∧ M' om 0 = 0 ∧ DM M' om (f_up ds r xs) ∧ HM M' om hs ∧ r < 4 := by
  have e7 : j_rf Y om 7 = om + 4 := (hy (7, 4, 8) (by decide)).1
  have l7 : j_ln Y (om + 4) = 8 := (hy (7, 4, 8) (by decide)).2
  have e8 : j_rf Y om 8 = om + 5 := (hy (8, 5, 8) (by decide)).1
  have l8 : j_ln Y (om + 5) = 8 := (hy (8, 5, 8) (by decide)).2
  have e2 : j_rf Y om 2 = om + 2 := (hy (2, 2, 4) (by decide)).1
  have l2 : j_ln Y (om + 2) = 4 := (hy (2, 2, 4) (by decide)).2
  obtain ⟨h1, h2, h3⟩ := hH
  obtain ⟨c1, c2, c3, c4, c5⟩ := h3 0 r xs rfl
  rw [List.length_cons] at h1 h2 c3 c4 c5
  rw [show hs.length + 1 - 1 - 0 = hs.length by omega] at c3 c4 c5
  have f1 : MF om [] [10] M (j_up M om 10 (nI hs.length)) := MF.uf
  have f2 : MF om [2] [] (j_up M om 10 (nI hs.length)) (j_up (j_up M om 10 (nI hs.length)) (om + 2) r (nI xs.length)) := MF.ua
  obtain ⟨M3, a1, a2, a3, a4⟩ := m_undo_loop hy c1 (kp := hs.length) (by omega) 24 0 j_fuel (j_up (j_up M om 10 (nI hs.length)) (om + 2) r (nI xs.length)) (by omega) (by unfold j_fuel; omega) (by rw [f2.fld (by decide) (by decide), j_up_s]) (fun t ht => absurd ht (Nat.not_lt_zero _))
  have f4 : MF om [] [0] M3 (j_up M3 om 0 0) := MF.uf
  have F : MF om [1, 2] [0, 10] M (j_up M3 om 0 0) := (((f1.mono (by simp) (by simp)).trans (f2.mono (by simp) (by simp))).trans (a2.mono (by simp) (by simp))).trans (f4.mono (by simp) (by simp))
  refine ⟨j_up M3 om 0 0, ?_, F, j_up_s, hD.set ⟨?_, c2, fun i hi => ?_⟩ (fun r' hr' hne => ⟨?_, fun i hi => ?_⟩), ⟨?_, by omega, fun k r' xs' hk => ?_⟩, c1⟩
  · unfold s_X10_undo
    rw [h1, if_neg (nI_ne0 (by omega) (by omega)), nI_pd]
    dsimp only [lt_]
    have e10 : j_up M om 10 (nI hs.length) om 10 = nI hs.length := j_up_s
    rw [e10, e7, l7, e8, l8, e2, l2, if_pos (j_g_nI (by omega) (by omega)), if_pos (j_g_nI (by omega) (by omega)), nI_clamp (by omega), f1.arr (t := 4) (by decide) (by decide), f1.arr (t := 5) (by decide) (by decide), c3, c4, if_pos (j_g_nI c1 (by omega)), nI_clamp (by omega)]
    rw [nI_0] at a1
    rw [a1]
    rfl
  · rw [f4.arr (t := 2) (by decide) (by decide), a2.arr (t := 2) (by decide) (by decide), j_up_s]
  · rw [f4.arr (t := 1) (by decide) (by decide), a3 i (by omega), f2.arr (t := 6) (by decide) (by decide), f1.arr (t := 6) (by decide) (by decide)]
    exact c5 i hi
  · rw [f4.arr (t := 2) (by decide) (by decide), a2.arr (t := 2) (by decide) (by decide), j_up_k hne, f1.arr (t := 2) (by decide) (by decide)]
  · rw [f4.arr (t := 1) (by decide) (by decide), a4 _ (by omega), f2.arr (t := 1) (by decide) (by decide), f1.arr (t := 1) (by decide) (by decide)]
  · rw [f4.fld (by decide) (by decide), a2.fld (by decide) (by decide), f2.fld (by decide) (by decide), j_up_s]
  · have hkl : k < hs.length := by
      apply Classical.byContradiction
      intro c
      rw [List.getElem?_eq_none (by omega)] at hk
      exact absurd hk (by simp)
    have := h3 (k + 1) r' xs' (by simpa using hk)
    rw [List.length_cons, show hs.length + 1 - 1 - (k + 1) = hs.length - 1 - k by omega] at this
    rw [F.arr (t := 4) (by decide) (by decide), F.arr (t := 5) (by decide) (by decide), F.arr (t := 6) (by decide) (by decide)]
    exact this
theorem m_all (hy : MdAt Y om) (hD : DM M om ds) : s_X10_all Y M om = some (nI (f_sum ds 0 4)) := by
  have e2 : j_rf Y om 2 = om + 2 := (hy (2, 2, 4) (by decide)).1
  have l2 : j_ln Y (om + 2) = 4 := (hy (2, 2, 4) (by decide)).2
  have loop : ∀ (k i m s : Nat), 4 = i + k → k < m → lp_X10_all_1 Y om M m (nI s) (nI i) = some (nI (s + f_sum ds i k)) := by
    intro k
    induction k with
    | zero =>
      intro i m s hi hm
      obtain ⟨m, rfl⟩ : ∃ z, m = z + 1 := ⟨m - 1, by omega⟩
      unfold lp_X10_all_1
      rw [if_pos (by rw [show (4 : Int32) = nI 4 from rfl]; exact nI_le (by omega) (by omega))]
      rfl
    | succ k ih =>
      intro i m s hi hm
      obtain ⟨m, rfl⟩ : ∃ z, m = z + 1 := ⟨m - 1, by omega⟩
      have e4 : ¬ (4 : Int32) ≤ nI i := by rw [show (4 : Int32) = nI 4 from rfl]; exact nI_ge (by omega) (by omega)
      unfold lp_X10_all_1 f_sum
      rw [if_neg e4, e2, l2, if_pos (j_g_nI (by omega) (by omega)), nI_clamp (by omega), (hD.dr (show i < 4 by omega)).1, nI_add]
      dsimp only [lt_]
      rw [nI_1, ih (i + 1) m _ (by omega) (by omega), Nat.add_assoc]
  have e := loop 4 0 j_fuel 0 (by omega) (by unfold j_fuel; omega)
  rw [nI_0, Nat.zero_add] at e
  unfold s_X10_all
  rw [e]
  rfl
/-- the saved documents -/
def DMs (M : JM) (om : Nat) (ds : Nat → List Int32) : Prop := ∀ r, r < 4 → M (om + 8) r = nI (ds r).length ∧ (ds r).length ≤ 24 ∧ ∀ i, i < (ds r).length → (ds r)[i]? = some (M (om + 7) (24 * r + i))
theorem DMs.eq {M' : JM} (h : DMs M om ds) (e1 : M' (om + 7) = M (om + 7)) (e2 : M' (om + 8) = M (om + 8)) : DMs M' om ds := fun r hr => by
  rw [e1, e2]
  exact h r hr
theorem m_save1 (hy : MdAt Y om) : ∀ (d i n : Nat) (M : JM), 96 = i + d → d < n → (∀ t, t < i → M (om + 7) t = M (om + 1) t) → ∃ M', lp_X10_save_1 Y om n (nI i) M = some M' ∧ MF om [7] [] M M' ∧ ∀ t, t < 96 → M' (om + 7) t = M (om + 1) t := by
  have e1 : j_rf Y om 1 = om + 1 := (hy (1, 1, 96) (by decide)).1
  have l1 : j_ln Y (om + 1) = 96 := (hy (1, 1, 96) (by decide)).2
  have e12 : j_rf Y om 12 = om + 7 := (hy (12, 7, 96) (by decide)).1
  have l12 : j_ln Y (om + 7) = 96 := (hy (12, 7, 96) (by decide)).2
  intro d
  induction d with
  | zero =>
    intro i n M hi hn h
    obtain ⟨n, rfl⟩ : ∃ z, n = z + 1 := ⟨n - 1, by omega⟩
    refine ⟨M, ?_, MF.refl, fun t ht => h t (by omega)⟩
    unfold lp_X10_save_1
    rw [if_pos (by rw [show (96 : Int32) = nI 96 from rfl]; exact nI_le (by omega) (by omega))]
  | succ d ih =>
    intro i n M hi hn h
    obtain ⟨n, rfl⟩ : ∃ z, n = z + 1 := ⟨n - 1, by omega⟩
    have f1 : MF om [7] [] M (j_up M (om + 7) i (M (om + 1) i)) := MF.ua
    obtain ⟨M', a1, a2, a3⟩ := ih (i + 1) n (j_up M (om + 7) i (M (om + 1) i)) (by omega) (by omega) (fun t ht => by
      rw [f1.arr (t := 1) (by decide) (by decide)]
      by_cases e : t = i
      · rw [e, j_up_s]
      · rw [j_up_k e]
        exact h t (by omega))
    refine ⟨M', ?_, f1.trans a2, fun t ht => by rw [a3 t ht, f1.arr (t := 1) (by decide) (by decide)]⟩
    have e96 : ¬ (96 : Int32) ≤ nI i := by rw [show (96 : Int32) = nI 96 from rfl]; exact nI_ge (by omega) (by omega)
    have g : j_g (nI i) 96 := j_g_nI (by omega) (by omega)
    unfold lp_X10_save_1
    rw [if_neg e96, e1, l1, e12, l12, if_pos g, if_pos g, nI_clamp (by omega), nI_1]
    exact a1
theorem m_save2 (hy : MdAt Y om) : ∀ (d i n : Nat) (M : JM), 4 = i + d → d < n → (∀ t, t < i → M (om + 8) t = M (om + 2) t) → ∃ M', lp_X10_save_2 Y om n (nI i) M = some M' ∧ MF om [8] [] M M' ∧ ∀ t, t < 4 → M' (om + 8) t = M (om + 2) t := by
  have e2 : j_rf Y om 2 = om + 2 := (hy (2, 2, 4) (by decide)).1
  have l2 : j_ln Y (om + 2) = 4 := (hy (2, 2, 4) (by decide)).2
  have e13 : j_rf Y om 13 = om + 8 := (hy (13, 8, 4) (by decide)).1
  have l13 : j_ln Y (om + 8) = 4 := (hy (13, 8, 4) (by decide)).2
  intro d
  induction d with
  | zero =>
    intro i n M hi hn h
    obtain ⟨n, rfl⟩ : ∃ z, n = z + 1 := ⟨n - 1, by omega⟩
    refine ⟨M, ?_, MF.refl, fun t ht => h t (by omega)⟩
    unfold lp_X10_save_2
    rw [if_pos (by rw [show (4 : Int32) = nI 4 from rfl]; exact nI_le (by omega) (by omega))]
  | succ d ih =>
    intro i n M hi hn h
    obtain ⟨n, rfl⟩ : ∃ z, n = z + 1 := ⟨n - 1, by omega⟩
    have f1 : MF om [8] [] M (j_up M (om + 8) i (M (om + 2) i)) := MF.ua
    obtain ⟨M', a1, a2, a3⟩ := ih (i + 1) n (j_up M (om + 8) i (M (om + 2) i)) (by omega) (by omega) (fun t ht => by
      rw [f1.arr (t := 2) (by decide) (by decide)]
      by_cases e : t = i
      · rw [e, j_up_s]
      · rw [j_up_k e]
        exact h t (by omega))
    refine ⟨M', ?_, f1.trans a2, fun t ht => by rw [a3 t ht, f1.arr (t := 2) (by decide) (by decide)]⟩
    have e96 : ¬ (4 : Int32) ≤ nI i := by rw [show (4 : Int32) = nI 4 from rfl]; exact nI_ge (by omega) (by omega)
    have g : j_g (nI i) 4 := j_g_nI (by omega) (by omega)
    unfold lp_X10_save_2
    rw [if_neg e96, e2, l2, e13, l13, if_pos g, if_pos g, nI_clamp (by omega), nI_1]
    exact a1
theorem m_rest1 (hy : MdAt Y om) : ∀ (d i n : Nat) (M : JM), 96 = i + d → d < n → (∀ t, t < i → M (om + 1) t = M (om + 7) t) → ∃ M', lp_X10_restore_1 Y om n (nI i) M = some M' ∧ MF om [1] [] M M' ∧ ∀ t, t < 96 → M' (om + 1) t = M (om + 7) t := by
  have e1 : j_rf Y om 1 = om + 1 := (hy (1, 1, 96) (by decide)).1
  have l1 : j_ln Y (om + 1) = 96 := (hy (1, 1, 96) (by decide)).2
  have e12 : j_rf Y om 12 = om + 7 := (hy (12, 7, 96) (by decide)).1
  have l12 : j_ln Y (om + 7) = 96 := (hy (12, 7, 96) (by decide)).2
  intro d
  induction d with
  | zero =>
    intro i n M hi hn h
    obtain ⟨n, rfl⟩ : ∃ z, n = z + 1 := ⟨n - 1, by omega⟩
    refine ⟨M, ?_, MF.refl, fun t ht => h t (by omega)⟩
    unfold lp_X10_restore_1
    rw [if_pos (by rw [show (96 : Int32) = nI 96 from rfl]; exact nI_le (by omega) (by omega))]
  | succ d ih =>
    intro i n M hi hn h
    obtain ⟨n, rfl⟩ : ∃ z, n = z + 1 := ⟨n - 1, by omega⟩
    have f1 : MF om [1] [] M (j_up M (om + 1) i (M (om + 7) i)) := MF.ua
    obtain ⟨M', a1, a2, a3⟩ := ih (i + 1) n (j_up M (om + 1) i (M (om + 7) i)) (by omega) (by omega) (fun t ht => by
      rw [f1.arr (t := 7) (by decide) (by decide)]
      by_cases e : t = i
      · rw [e, j_up_s]
      · rw [j_up_k e]
        exact h t (by omega))
    refine ⟨M', ?_, f1.trans a2, fun t ht => by rw [a3 t ht, f1.arr (t := 7) (by decide) (by decide)]⟩
    have e96 : ¬ (96 : Int32) ≤ nI i := by rw [show (96 : Int32) = nI 96 from rfl]; exact nI_ge (by omega) (by omega)
    have g : j_g (nI i) 96 := j_g_nI (by omega) (by omega)
    unfold lp_X10_restore_1
    rw [if_neg e96, e1, l1, e12, l12, if_pos g, if_pos g, nI_clamp (by omega), nI_1]
    exact a1
theorem m_rest2 (hy : MdAt Y om) : ∀ (d i n : Nat) (M : JM), 4 = i + d → d < n → (∀ t, t < i → M (om + 2) t = M (om + 8) t) → ∃ M', lp_X10_restore_2 Y om n (nI i) M = some M' ∧ MF om [2] [] M M' ∧ ∀ t, t < 4 → M' (om + 2) t = M (om + 8) t := by
  have e2 : j_rf Y om 2 = om + 2 := (hy (2, 2, 4) (by decide)).1
  have l2 : j_ln Y (om + 2) = 4 := (hy (2, 2, 4) (by decide)).2
  have e13 : j_rf Y om 13 = om + 8 := (hy (13, 8, 4) (by decide)).1
  have l13 : j_ln Y (om + 8) = 4 := (hy (13, 8, 4) (by decide)).2
  intro d
  induction d with
  | zero =>
    intro i n M hi hn h
    obtain ⟨n, rfl⟩ : ∃ z, n = z + 1 := ⟨n - 1, by omega⟩
    refine ⟨M, ?_, MF.refl, fun t ht => h t (by omega)⟩
    unfold lp_X10_restore_2
    rw [if_pos (by rw [show (4 : Int32) = nI 4 from rfl]; exact nI_le (by omega) (by omega))]
  | succ d ih =>
    intro i n M hi hn h
    obtain ⟨n, rfl⟩ : ∃ z, n = z + 1 := ⟨n - 1, by omega⟩
    have f1 : MF om [2] [] M (j_up M (om + 2) i (M (om + 8) i)) := MF.ua
    obtain ⟨M', a1, a2, a3⟩ := ih (i + 1) n (j_up M (om + 2) i (M (om + 8) i)) (by omega) (by omega) (fun t ht => by
      rw [f1.arr (t := 8) (by decide) (by decide)]
      by_cases e : t = i
      · rw [e, j_up_s]
      · rw [j_up_k e]
        exact h t (by omega))
    refine ⟨M', ?_, f1.trans a2, fun t ht => by rw [a3 t ht, f1.arr (t := 8) (by decide) (by decide)]⟩
    have e96 : ¬ (4 : Int32) ≤ nI i := by rw [show (4 : Int32) = nI 4 from rfl]; exact nI_ge (by omega) (by omega)
    have g : j_g (nI i) 4 := j_g_nI (by omega) (by omega)
    unfold lp_X10_restore_2
    rw [if_neg e96, e2, l2, e13, l13, if_pos g, if_pos g, nI_clamp (by omega), nI_1]
    exact a1
theorem m_save (hy : MdAt Y om) (hD : DM M om ds) : ∃ M', s_X10_save Y M om = some (nI (f_sum ds 0 4), M') ∧ MF om [7, 8] [0, 11, 14] M M' ∧ M' om 0 = 0 ∧ DMs M' om ds ∧ M' om 11 = 1 ∧ M' om 14 = M om 3 := by
  have f1 : MF om [] [11] M (j_up M om 11 1) := MF.uf
  have f2 : MF om [] [14] (j_up M om 11 1) (j_up (j_up M om 11 1) om 14 (M om 3)) := MF.uf
  have F2 : MF om [] [11, 14] M (j_up (j_up M om 11 1) om 14 (M om 3)) := (f1.mono (by simp) (by simp)).trans (f2.mono (by simp) (by simp))
  obtain ⟨M3, a1, a2, a3⟩ := m_save1 hy 96 0 j_fuel (j_up (j_up M om 11 1) om 14 (M om 3)) (by omega) (by unfold j_fuel; omega) (fun t ht => absurd ht (Nat.not_lt_zero _))
  obtain ⟨M4, b1, b2, b3⟩ := m_save2 hy 4 0 j_fuel M3 (by omega) (by unfold j_fuel; omega) (fun t ht => absurd ht (Nat.not_lt_zero _))
  have F4 : MF om [7, 8] [11, 14] M M4 := ((F2.mono (by simp) (by simp)).trans (a2.mono (by simp) (by simp))).trans (b2.mono (by simp) (by simp))
  have f5 : MF om [] [0] M4 (j_up M4 om 0 0) := MF.uf
  have F5 : MF om [7, 8] [0, 11, 14] M (j_up M4 om 0 0) := (F4.mono (by simp) (by simp)).trans (f5.mono (by simp) (by simp))
  have hal := m_all hy (hD.eq (F4.arr (t := 1) (by decide) (by decide)) (F4.arr (t := 2) (by decide) (by decide)))
  refine ⟨j_up M4 om 0 0, ?_, F5, j_up_s, fun r hr => ?_, ?_, ?_⟩
  · unfold s_X10_save
    dsimp only [lt_]
    rw [f1.fld (k := 3) (by decide) (by decide)]
    rw [nI_0] at a1 b1
    rw [a1]
    dsimp only [Option.bind]
    rw [b1]
    dsimp only
    rw [hal]
    rfl
  · obtain ⟨c1, c2, c3⟩ := hD r hr
    rw [f5.arr (t := 7) (by decide) (by decide), f5.arr (t := 8) (by decide) (by decide), b3 r hr, a2.arr (t := 2) (by decide) (by decide), F2.arr (t := 2) (by decide) (by decide), b2.arr (t := 7) (by decide) (by decide)]
    refine ⟨c1, c2, fun i hi => ?_⟩
    rw [a3 _ (by omega), F2.arr (t := 1) (by decide) (by decide)]
    exact c3 i hi
  · rw [f5.fld (by decide) (by decide), b2.fld (by decide) (by decide), a2.fld (by decide) (by decide), f2.fld (by decide) (by decide), j_up_s]
  · rw [f5.fld (by decide) (by decide), b2.fld (by decide) (by decide), a2.fld (by decide) (by decide), j_up_s]
theorem m_restore (hy : MdAt Y om) (hD : DMs M om ds) (h11 : M om 11 = 1) : ∃ M', s_X10_restore Y M om = some (nI (f_sum ds 0 4), M') ∧ MF om [1, 2] [0, 3, 10] M M' ∧ M' om 0 = 0 ∧ DM M' om ds ∧ M' om 3 = M om 14 ∧ HM M' om [] := by
  have f1 : MF om [] [3] M (j_up M om 3 (M om 14)) := MF.uf
  obtain ⟨M3, a1, a2, a3⟩ := m_rest1 hy 96 0 j_fuel (j_up M om 3 (M om 14)) (by omega) (by unfold j_fuel; omega) (fun t ht => absurd ht (Nat.not_lt_zero _))
  obtain ⟨M4, b1, b2, b3⟩ := m_rest2 hy 4 0 j_fuel M3 (by omega) (by unfold j_fuel; omega) (fun t ht => absurd ht (Nat.not_lt_zero _))
  have F4 : MF om [1, 2] [3] M M4 := ((f1.mono (by simp) (by simp)).trans (a2.mono (by simp) (by simp))).trans (b2.mono (by simp) (by simp))
  have f5 : MF om [] [10] M4 (j_up M4 om 10 0) := MF.uf
  have f6 : MF om [] [0] (j_up M4 om 10 0) (j_up (j_up M4 om 10 0) om 0 0) := MF.uf
  have f56 : MF om [] [0, 10] M4 (j_up (j_up M4 om 10 0) om 0 0) := (f5.mono (by simp) (by simp)).trans (f6.mono (by simp) (by simp))
  have F6 : MF om [1, 2] [0, 3, 10] M (j_up (j_up M4 om 10 0) om 0 0) := (F4.mono (by simp) (by simp)).trans (f56.mono (by simp) (by simp))
  have hD4 : DM M4 om ds := fun r hr => by
    obtain ⟨c1, c2, c3⟩ := hD r hr
    rw [b3 r hr, a2.arr (t := 8) (by decide) (by decide), f1.arr (t := 8) (by decide) (by decide), b2.arr (t := 1) (by decide) (by decide)]
    refine ⟨c1, c2, fun i hi => ?_⟩
    rw [a3 _ (by omega), f1.arr (t := 7) (by decide) (by decide)]
    exact c3 i hi
  have hD5 : DM (j_up M4 om 10 0) om ds := hD4.eq (f5.arr (t := 1) (by decide) (by decide)) (f5.arr (t := 2) (by decide) (by decide))
  have hal := m_all hy hD5
  refine ⟨j_up (j_up M4 om 10 0) om 0 0, ?_, F6, j_up_s, hD5.eq (f6.arr (t := 1) (by decide) (by decide)) (f6.arr (t := 2) (by decide) (by decide)), ?_, ⟨?_, by decide, fun k r xs hk => absurd hk (by simp)⟩⟩
  · unfold s_X10_restore
    rw [h11, if_neg (by decide)]
    dsimp only [lt_]
    rw [nI_0] at a1 b1
    rw [a1]
    dsimp only [Option.bind]
    rw [b1]
    dsimp only
    rw [hal]
    rfl
  · rw [f56.fld (by decide) (by decide), b2.fld (by decide) (by decide), a2.fld (by decide) (by decide), j_up_s]
  · rw [f6.fld (by decide) (by decide), j_up_s]
    rfl
end DOS

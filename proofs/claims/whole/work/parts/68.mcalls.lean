/-! ===== pure: the model's calls of documents ===== -/
section DOD
variable {Y : JY} {M : JM} {om : Nat} {ds : Nat → List Int32} {hs : List (Nat × List Int32)}
theorem m_in25 {Y : JY} {M : JM} {p : Int32} : s_X10_in Y M p 0 25 = 0 ↔ p < 0 ∨ (25 : Int32) < p := m_in
theorem DM.up {M' : JM} {r : Nat} (h : DM M om ds) (hr : r < 4) {A F : List Nat} (hf : MF om A F M M') (h1 : 1 ∉ A) (h2 : 2 ∉ A) : DM M' om ds := h.eq (hf.arr h1 (by decide)) (hf.arr h2 (by decide))
theorem m_append (hy : MdAt Y om) (hD : DM M om ds) (hH : HM M om hs) {r : Nat} (hr : r < 4) (hl : (ds r).length < 24) {v : Int32} (hv : ¬ s_X10_in Y M v 0 25 = 0) :
    ∃ M', s_X10_append Y M om (nI r) v = some (nI ((ds r).length + 1), M') ∧ MF om [1, 2, 4, 5, 6] [0, 10] M M' ∧ M' om 0 = 0 ∧ DM M' om (f_up ds r (ds r ++ [v])) ∧ HM M' om (((r, ds r) :: hs).take 8) := by
  have e1 : j_rf Y om 1 = om + 1 := (hy (1, 1, 96) (by decide)).1
  have l1 : j_ln Y (om + 1) = 96 := (hy (1, 1, 96) (by decide)).2
  have e2 : j_rf Y om 2 = om + 2 := (hy (2, 2, 4) (by decide)).1
  have l2 : j_ln Y (om + 2) = 4 := (hy (2, 2, 4) (by decide)).2
  have hDr := hD.dr hr
  obtain ⟨n, hn⟩ : ∃ z, z = (ds r).length := ⟨_, rfl⟩
  rw [← hn] at hl ⊢
  have hgr : j_g (nI r) 4 := j_g_nI hr (by omega)
  obtain ⟨M1, a1, a2, a3⟩ := m_remembers hy hH hr hDr
  have hD1 : DM M1 om ds := hD.eq (a2.arr (t := 1) (by decide) (by decide)) (a2.arr (t := 2) (by decide) (by decide))
  have s0 : M (om + 2) r = nI n := by rw [hn]; exact hDr.1
  have s1 : M1 (om + 2) r = nI n := by rw [hn]; exact (hD1.dr hr).1
  have f2 : MF om [1] [] M1 (j_up M1 (om + 1) (24 * r + n) v) := MF.ua
  have f3 : MF om [2] [] (j_up M1 (om + 1) (24 * r + n) v) (j_up (j_up M1 (om + 1) (24 * r + n) v) (om + 2) r (nI (n + 1))) := MF.ua
  obtain ⟨M3, hM3⟩ : ∃ z, z = j_up (j_up M1 (om + 1) (24 * r + n) v) (om + 2) r (nI (n + 1)) := ⟨_, rfl⟩
  have f4 : MF om [] [0] M3 (j_up M3 om 0 0) := MF.uf
  rw [← hM3] at f3
  have F : MF om [1, 2] [0] M1 (j_up M3 om 0 0) := ((f2.mono (by simp) (by simp)).trans (f3.mono (by simp) (by simp))).trans (f4.mono (by simp) (by simp))
  refine ⟨j_up M3 om 0 0, ?_, (a2.mono (by simp) (by simp)).trans (F.mono (by simp) (by simp)), j_up_s, ?_, ?_⟩
  · unfold s_X10_append
    rw [if_neg (by rintro (c | c); exact m_isRegT hr c; exact hv c), e1, l1, e2, l2]
    simp only [if_pos hgr, nI_clamp (show r < 2 ^ 31 by omega), s0]
    have e24 : ¬ nI n = (24 : Int32) := fun c => by
      have := (nI_eq (b := 24) (by omega) (by omega)).mp c
      omega
    rw [if_neg e24, a1]
    dsimp only [Option.bind, lt_]
    rw [s1, nI_24, if_pos (j_g_nI (by omega) (by omega)), nI_clamp (by omega), f2.arr (t := 2) (by decide) (by decide), s1, nI_1, ← hM3]
    unfold s_X10_done
    dsimp only [lt_]
    rw [hM3, j_up_s]
  · refine hD1.set ⟨?_, ?_, fun i hi => ?_⟩ (fun r' hr' hne => ⟨?_, fun i hi => ?_⟩)
    · rw [f4.arr (t := 2) (by decide) (by decide), hM3, j_up_s, List.length_append, ← hn]
      rfl
    · rw [List.length_append, List.length_singleton, ← hn]
      omega
    · rw [List.length_append, List.length_singleton, ← hn] at hi
      rw [f4.arr (t := 1) (by decide) (by decide), f3.arr (t := 1) (by decide) (by decide)]
      by_cases e : i < n
      · rw [List.getElem?_append_left (by omega), j_up_k (by omega)]
        exact (hD1.dr hr).2.2 i (by omega)
      · have e2 : i = n := by omega
        rw [e2, j_up_s, List.getElem?_append_right (by omega), hn, Nat.sub_self]
        rfl
    · rw [f4.arr (t := 2) (by decide) (by decide), hM3, j_up_k hne, f2.arr (t := 2) (by decide) (by decide)]
    · rw [f4.arr (t := 1) (by decide) (by decide), f3.arr (t := 1) (by decide) (by decide), j_up_k (by omega)]
  · exact a3.fr F (by decide) (by decide) (by decide)
theorem l_ins_get {xs : List Int32} {p : Nat} {v : Int32} (hp : p ≤ xs.length) (t : Nat) : (l_ins xs p v)[t]? = if t < p then xs[t]? else if t = p then some v else xs[t - 1]? := by
  have hl : (xs.take p).length = p := by rw [List.length_take]; omega
  unfold l_ins
  by_cases c : t < p
  · rw [if_pos c, List.getElem?_append_left (by omega), List.getElem?_take_of_lt c]
  · rw [if_neg c, List.getElem?_append_right (by omega), hl]
    by_cases e : t = p
    · rw [if_pos e, e, Nat.sub_self]
      rfl
    · rw [if_neg e, show t - p = (t - p - 1) + 1 by omega, List.getElem?_cons_succ, List.getElem?_drop]
      congr 1
      omega
theorem l_del_get {xs : List Int32} {p : Nat} (hp : p < xs.length) (t : Nat) : (l_del xs p)[t]? = if t < p then xs[t]? else xs[t + 1]? := by
  have hl : (xs.take p).length = p := by rw [List.length_take]; omega
  unfold l_del
  by_cases c : t < p
  · rw [if_pos c, List.getElem?_append_left (by omega), List.getElem?_take_of_lt c]
  · rw [if_neg c, List.getElem?_append_right (by omega), hl, List.getElem?_drop]
    congr 1
    omega
theorem m_ins_loop (hy : MdAt Y om) {r : Nat} (hr : r < 4) {p N : Nat} (hN : N < 24) {M0 : JM} : ∀ (d i n : Nat) (M : JM), i = p + d → i ≤ N → d < n → (∀ t, t ≤ N → M (om + 1) (24 * r + t) = if t ≤ i then M0 (om + 1) (24 * r + t) else M0 (om + 1) (24 * r + (t - 1))) →
      ∃ M', lp_X10_insert_1 Y (nI p) (nI r) om n (nI i) M = some M' ∧ MF om [1] [] M M' ∧ (∀ t, t ≤ N → M' (om + 1) (24 * r + t) = if t ≤ p then M0 (om + 1) (24 * r + t) else M0 (om + 1) (24 * r + (t - 1))) ∧ ∀ t, (t < 24 * r ∨ 24 * r + 24 ≤ t) → M' (om + 1) t = M (om + 1) t := by
  have e1 : j_rf Y om 1 = om + 1 := (hy (1, 1, 96) (by decide)).1
  have l1 : j_ln Y (om + 1) = 96 := (hy (1, 1, 96) (by decide)).2
  intro d
  induction d with
  | zero =>
    intro i n M hi hi24 hn h
    obtain ⟨n, rfl⟩ : ∃ z, n = z + 1 := ⟨n - 1, by omega⟩
    have ei : i = p := by omega
    subst ei
    refine ⟨M, ?_, MF.refl, h, fun _ _ => rfl⟩
    unfold lp_X10_insert_1
    rw [if_pos (nI_le (Nat.le_refl _) (by omega))]
  | succ d ih =>
    intro i n M hi hi24 hn h
    obtain ⟨n, rfl⟩ : ∃ z, n = z + 1 := ⟨n - 1, by omega⟩
    obtain ⟨i, rfl⟩ : ∃ z, i = z + 1 := ⟨i - 1, by omega⟩
    have f1 : MF om [1] [] M (j_up M (om + 1) (24 * r + (i + 1)) (M (om + 1) (24 * r + i))) := MF.ua
    obtain ⟨M', a1, a2, a3, a4⟩ := ih i n (j_up M (om + 1) (24 * r + (i + 1)) (M (om + 1) (24 * r + i))) (by omega) (by omega) (by omega) (fun t ht => by
      by_cases e : t = i + 1
      · rw [e, j_up_s, h i (by omega), if_pos (by omega), if_neg (by omega)]
        rfl
      · rw [j_up_k (by omega), h t ht]
        by_cases e2 : t ≤ i
        · rw [if_pos (by omega), if_pos e2]
        · rw [if_neg (by omega), if_neg e2])
    refine ⟨M', ?_, f1.trans a2, a3, fun t ht => by rw [a4 t ht, j_up_k (by omega)]⟩
    unfold lp_X10_insert_1
    rw [if_neg (nI_ge (by omega) (by omega)), nI_24, e1, l1, show nI (24 * r + (i + 1)) - (1 : Int32) = nI (24 * r + i) from nI_pd _, if_pos (j_g_nI (by omega) (by omega)), if_pos (j_g_nI (by omega) (by omega)), nI_clamp (by omega), nI_clamp (by omega), nI_dec]
    exact a1
theorem m_insert (hy : MdAt Y om) (hD : DM M om ds) (hH : HM M om hs) {r : Nat} (hr : r < 4) (hl : (ds r).length < 24) {v : Int32} (hv : ¬ s_X10_in Y M v 0 25 = 0) {p : Nat} (hp : p ≤ (ds r).length) :
    ∃ M', s_X10_insert Y M om (nI r) (nI p) v = some (nI ((ds r).length + 1), M') ∧ MF om [1, 2, 4, 5, 6] [0, 10] M M' ∧ M' om 0 = 0 ∧ DM M' om (f_up ds r (l_ins (ds r) p v)) ∧ HM M' om (((r, ds r) :: hs).take 8) := by
  have e1 : j_rf Y om 1 = om + 1 := (hy (1, 1, 96) (by decide)).1
  have l1 : j_ln Y (om + 1) = 96 := (hy (1, 1, 96) (by decide)).2
  have e2 : j_rf Y om 2 = om + 2 := (hy (2, 2, 4) (by decide)).1
  have l2 : j_ln Y (om + 2) = 4 := (hy (2, 2, 4) (by decide)).2
  have hDr := hD.dr hr
  have hp' := hp
  obtain ⟨n, hn⟩ : ∃ z, z = (ds r).length := ⟨_, rfl⟩
  have hil := l_ins_len (v := v) hp
  rw [← hn] at hl hp hil ⊢
  have hgr : j_g (nI r) 4 := j_g_nI hr (by omega)
  obtain ⟨M1, a1, a2, a3⟩ := m_remembers hy hH hr hDr
  have hD1 : DM M1 om ds := hD.eq (a2.arr (t := 1) (by decide) (by decide)) (a2.arr (t := 2) (by decide) (by decide))
  have s0 : M (om + 2) r = nI n := by rw [hn]; exact hDr.1
  have s1 : M1 (om + 2) r = nI n := by rw [hn]; exact (hD1.dr hr).1
  obtain ⟨M2, b1, b2, b3, b4⟩ := m_ins_loop hy hr (p := p) (N := n) hl (M0 := M1) (n - p) n j_fuel M1 (by omega) (Nat.le_refl _) (j_fuel_gt (by omega)) (fun t ht => by rw [if_pos ht])
  have f2 : MF om [1] [] M2 (j_up M2 (om + 1) (24 * r + p) v) := MF.ua
  have f3 : MF om [2] [] (j_up M2 (om + 1) (24 * r + p) v) (j_up (j_up M2 (om + 1) (24 * r + p) v) (om + 2) r (nI (n + 1))) := MF.ua
  obtain ⟨M3, hM3⟩ : ∃ z, z = j_up (j_up M2 (om + 1) (24 * r + p) v) (om + 2) r (nI (n + 1)) := ⟨_, rfl⟩
  have f4 : MF om [] [0] M3 (j_up M3 om 0 0) := MF.uf
  rw [← hM3] at f3
  have F : MF om [1, 2] [0] M1 (j_up M3 om 0 0) := (((b2.mono (by simp) (by simp)).trans (f2.mono (by simp) (by simp))).trans (f3.mono (by simp) (by simp))).trans (f4.mono (by simp) (by simp))
  refine ⟨j_up M3 om 0 0, ?_, (a2.mono (by simp) (by simp)).trans (F.mono (by simp) (by simp)), j_up_s, ?_, ?_⟩
  · unfold s_X10_insert
    rw [if_neg (by rintro (c | c); exact m_isRegT hr c; exact hv c), e1, l1, e2, l2]
    simp only [if_pos hgr, nI_clamp (show r < 2 ^ 31 by omega), s0]
    have e24 : ¬ nI n = (24 : Int32) := fun c => by
      have := (nI_eq (b := 24) (by omega) (by omega)).mp c
      omega
    have ein : ¬ s_X10_in Y M (nI p) 0 (nI n) = 0 := by
      rw [m_in]
      rintro (c | c)
      · exact nI_pos (by omega) c
      · exact nI_nlt hp (by omega) c
    rw [if_neg e24, if_neg ein, a1]
    dsimp only [Option.bind, lt_]
    rw [s1, b1]
    dsimp only
    rw [nI_24, if_pos (j_g_nI (by omega) (by omega)), nI_clamp (by omega), f2.arr (t := 2) (by decide) (by decide), b2.arr (t := 2) (by decide) (by decide), s1, nI_1, ← hM3]
    unfold s_X10_done
    dsimp only [lt_]
    rw [hM3, j_up_s]
  · refine hD1.set ⟨?_, ?_, fun i hi => ?_⟩ (fun r' hr' hne => ⟨?_, fun i hi => ?_⟩)
    · rw [f4.arr (t := 2) (by decide) (by decide), hM3, j_up_s, hil]
    · rw [hil]
      omega
    · rw [hil] at hi
      rw [f4.arr (t := 1) (by decide) (by decide), f3.arr (t := 1) (by decide) (by decide), l_ins_get hp']
      by_cases c : i = p
      · rw [c, j_up_s, if_neg (by omega), if_pos rfl]
      · rw [j_up_k (by omega), b3 i (by omega)]
        by_cases c2 : i < p
        · rw [if_pos c2, if_pos (by omega)]
          exact (hD1.dr hr).2.2 i (by omega)
        · rw [if_neg c2, if_neg c, if_neg (by omega)]
          exact (hD1.dr hr).2.2 (i - 1) (by omega)
    · rw [f4.arr (t := 2) (by decide) (by decide), hM3, j_up_k hne, f2.arr (t := 2) (by decide) (by decide), b2.arr (t := 2) (by decide) (by decide)]
    · rw [f4.arr (t := 1) (by decide) (by decide), f3.arr (t := 1) (by decide) (by decide), j_up_k (by omega), b4 _ (by omega)]
  · exact a3.fr F (by decide) (by decide) (by decide)
theorem m_del_loop (hy : MdAt Y om) {r : Nat} (hr : r < 4) {p N : Nat} (hN : N < 24) {M0 : JM} : ∀ (d i n : Nat) (M : JM), N = i + d → p ≤ i → d < n → M (om + 2) r = nI N → (∀ t, t ≤ N → M (om + 1) (24 * r + t) = if t < p then M0 (om + 1) (24 * r + t) else if t < i then M0 (om + 1) (24 * r + (t + 1)) else M0 (om + 1) (24 * r + t)) →
      ∃ M', lp_X10_delete_1 Y (nI r) om n (nI i) M = some M' ∧ MF om [1] [] M M' ∧ (∀ t, t < N → M' (om + 1) (24 * r + t) = if t < p then M0 (om + 1) (24 * r + t) else M0 (om + 1) (24 * r + (t + 1))) ∧ ∀ t, (t < 24 * r ∨ 24 * r + 24 ≤ t) → M' (om + 1) t = M (om + 1) t := by
  have e1 : j_rf Y om 1 = om + 1 := (hy (1, 1, 96) (by decide)).1
  have l1 : j_ln Y (om + 1) = 96 := (hy (1, 1, 96) (by decide)).2
  have e2 : j_rf Y om 2 = om + 2 := (hy (2, 2, 4) (by decide)).1
  have l2 : j_ln Y (om + 2) = 4 := (hy (2, 2, 4) (by decide)).2
  have hgr : j_g (nI r) 4 := j_g_nI hr (by omega)
  intro d
  induction d with
  | zero =>
    intro i n M hi hp hn hs h
    obtain ⟨n, rfl⟩ : ∃ z, n = z + 1 := ⟨n - 1, by omega⟩
    refine ⟨M, ?_, MF.refl, fun t ht => ?_, fun _ _ => rfl⟩
    · unfold lp_X10_delete_1
      rw [e2, l2, if_pos hgr, nI_clamp (by omega), hs, if_pos (nI_le (by omega) (by omega))]
    · rw [h t (by omega)]
      by_cases c : t < p
      · rw [if_pos c, if_pos c]
      · rw [if_neg c, if_neg c, if_pos (by omega)]
  | succ d ih =>
    intro i n M hi hp hn hs h
    obtain ⟨n, rfl⟩ : ∃ z, n = z + 1 := ⟨n - 1, by omega⟩
    have f1 : MF om [1] [] M (j_up M (om + 1) (24 * r + i) (M (om + 1) (24 * r + i + 1))) := MF.ua
    obtain ⟨M', a1, a2, a3, a4⟩ := ih (i + 1) n (j_up M (om + 1) (24 * r + i) (M (om + 1) (24 * r + i + 1))) (by omega) (by omega) (by omega) (by rw [f1.arr (t := 2) (by decide) (by decide)]; exact hs) (fun t ht => by
      by_cases e : t = i
      · rw [e, j_up_s, show 24 * r + i + 1 = 24 * r + (i + 1) by omega, h (i + 1) (by omega), if_neg (by omega), if_neg (by omega), if_neg (by omega), if_pos (by omega)]
      · rw [j_up_k (by omega), h t ht]
        by_cases c : t < p
        · rw [if_pos c, if_pos c]
        · rw [if_neg c, if_neg c]
          by_cases c2 : t < i
          · rw [if_pos c2, if_pos (by omega)]
          · rw [if_neg c2, if_neg (by omega)])
    refine ⟨M', ?_, f1.trans a2, a3, fun t ht => by rw [a4 t ht, j_up_k (by omega)]⟩
    unfold lp_X10_delete_1
    rw [e2, l2, if_pos hgr, nI_clamp (by omega), hs, if_neg (nI_ge (by omega) (by omega)), nI_24, nI_1, e1, l1, if_pos (j_g_nI (by omega) (by omega)), if_pos (j_g_nI (by omega) (by omega)), nI_clamp (by omega), nI_clamp (by omega), nI_1]
    exact a1
theorem m_delete (hy : MdAt Y om) (hD : DM M om ds) (hH : HM M om hs) {r : Nat} (hr : r < 4) {p : Nat} (hp : p < (ds r).length) :
    ∃ M', s_X10_delete Y M om (nI r) (nI p) = some (l_at (ds r) (nI p), M') ∧ MF om [1, 2, 4, 5, 6] [0, 10] M M' ∧ M' om 0 = 0 ∧ DM M' om (f_up ds r (l_del (ds r) p)) ∧ HM M' om (((r, ds r) :: hs).take 8) := by
  have e1 : j_rf Y om 1 = om + 1 := (hy (1, 1, 96) (by decide)).1
  have l1 : j_ln Y (om + 1) = 96 := (hy (1, 1, 96) (by decide)).2
  have e2 : j_rf Y om 2 = om + 2 := (hy (2, 2, 4) (by decide)).1
  have l2 : j_ln Y (om + 2) = 4 := (hy (2, 2, 4) (by decide)).2
  have hDr := hD.dr hr
  have hp' := hp
  have h24 := hDr.2.1
  obtain ⟨n, hn⟩ : ∃ z, z = (ds r).length := ⟨_, rfl⟩
  have hil := l_del_len hp
  rw [← hn] at hp hil h24
  have hgr : j_g (nI r) 4 := j_g_nI hr (by omega)
  obtain ⟨M1, a1, a2, a3⟩ := m_remembers hy hH hr hDr
  have hD1 : DM M1 om ds := hD.eq (a2.arr (t := 1) (by decide) (by decide)) (a2.arr (t := 2) (by decide) (by decide))
  have s0 : M (om + 2) r = nI n := by rw [hn]; exact hDr.1
  have s1 : M1 (om + 2) r = nI n := by rw [hn]; exact (hD1.dr hr).1
  have f2 : MF om [2] [] M1 (j_up M1 (om + 2) r (nI (n - 1))) := MF.ua
  obtain ⟨M2, b1, b2, b3, b4⟩ := m_del_loop hy hr (p := p) (N := n - 1) (by omega) (M0 := M1) (n - 1 - p) p j_fuel (j_up M1 (om + 2) r (nI (n - 1))) (by omega) (Nat.le_refl _) (j_fuel_gt (by omega)) j_up_s (fun t ht => by
    rw [f2.arr (t := 1) (by decide) (by decide)]
    by_cases c : t < p
    · rw [if_pos c]
    · rw [if_neg c, if_neg c])
  have f4 : MF om [] [0] M2 (j_up M2 om 0 0) := MF.uf
  have F : MF om [1, 2] [0] M1 (j_up M2 om 0 0) := ((f2.mono (by simp) (by simp)).trans (b2.mono (by simp) (by simp))).trans (f4.mono (by simp) (by simp))
  refine ⟨j_up M2 om 0 0, ?_, (a2.mono (by simp) (by simp)).trans (F.mono (by simp) (by simp)), j_up_s, ?_, ?_⟩
  · unfold s_X10_delete
    rw [if_neg (m_isRegT hr), e1, l1, e2, l2]
    simp only [if_pos hgr, nI_clamp (show r < 2 ^ 31 by omega), s0]
    have ein : ¬ s_X10_in Y M (nI p) 0 (nI n - 1) = 0 := by
      rw [m_in, show n = (n - 1) + 1 by omega, nI_pd]
      rintro (c | c)
      · exact nI_pos (by omega) c
      · exact nI_nlt (by omega) (by omega) c
    rw [if_neg ein, a1]
    dsimp only [Option.bind, lt_]
    rw [nI_24, if_pos (j_g_nI (by omega) (by omega)), nI_clamp (by omega), s1, show nI n - (1 : Int32) = nI (n - 1) by rw [show n = (n - 1) + 1 by omega, nI_pd]; rfl, b1, (hD1.dr hr).get hp', l_at_nI (by omega)]
    rfl
  · refine hD1.set ⟨?_, ?_, fun i hi => ?_⟩ (fun r' hr' hne => ⟨?_, fun i hi => ?_⟩)
    · rw [f4.arr (t := 2) (by decide) (by decide), b2.arr (t := 2) (by decide) (by decide), j_up_s, hil]
    · rw [hil]
      omega
    · rw [hil] at hi
      rw [f4.arr (t := 1) (by decide) (by decide), b3 i hi, l_del_get hp']
      by_cases c2 : i < p
      · rw [if_pos c2, if_pos c2]
        exact (hD1.dr hr).2.2 i (by omega)
      · rw [if_neg c2, if_neg c2]
        exact (hD1.dr hr).2.2 (i + 1) (by omega)
    · rw [f4.arr (t := 2) (by decide) (by decide), b2.arr (t := 2) (by decide) (by decide), j_up_k hne]
    · rw [f4.arr (t := 1) (by decide) (by decide), b4 _ (by omega), f2.arr (t := 1) (by decide) (by decide)]
  · exact a3.fr F (by decide) (by decide) (by decide)
theorem m_copy_loop (hy : MdAt Y om) {r : Nat} (hr : r < 4) {xs : List Int32} : ∀ (d i n : Nat) (M : JM), xs.length = i + d → d < n → DR M om r xs → RA M (om + 9) (xs.take i) →
      ∃ M', lp_X10_copy_1 Y (nI r) om n (nI i) M = some M' ∧ MF om [9] [] M M' ∧ RA M' (om + 9) xs := by
  have e1 : j_rf Y om 1 = om + 1 := (hy (1, 1, 96) (by decide)).1
  have l1 : j_ln Y (om + 1) = 96 := (hy (1, 1, 96) (by decide)).2
  have e2 : j_rf Y om 2 = om + 2 := (hy (2, 2, 4) (by decide)).1
  have l2 : j_ln Y (om + 2) = 4 := (hy (2, 2, 4) (by decide)).2
  have e15 : j_rf Y om 15 = om + 9 := (hy (15, 9, 2000) (by decide)).1
  have l15 : j_ln Y (om + 9) = 2000 := (hy (15, 9, 2000) (by decide)).2
  have hgr : j_g (nI r) 4 := j_g_nI hr (by omega)
  intro d
  induction d with
  | zero =>
    intro i n M hi hn hD hA
    obtain ⟨n, rfl⟩ : ∃ z, n = z + 1 := ⟨n - 1, by omega⟩
    have h24 := hD.2.1
    rw [List.take_of_length_le (by omega)] at hA
    refine ⟨M, ?_, MF.refl, hA⟩
    unfold lp_X10_copy_1
    rw [e2, l2, if_pos hgr, nI_clamp (by omega), hD.1, if_pos (nI_le (by omega) (by omega))]
  | succ d ih =>
    intro i n M hi hn hD hA
    obtain ⟨n, rfl⟩ : ∃ z, n = z + 1 := ⟨n - 1, by omega⟩
    have h24 := hD.2.1
    have hix : i < xs.length := by omega
    have f1 : MF om [9] [] M (j_up M (om + 9) i (M (om + 1) (24 * r + i))) := MF.ua
    have hlt : (xs.take i).length = i := by rw [List.length_take]; omega
    obtain ⟨M', a1, a2, a3⟩ := ih (i + 1) n (j_up M (om + 9) i (M (om + 1) (24 * r + i))) (by omega) (by omega) (hD.eq (f1.arr (t := 1) (by decide) (by decide)) (f1.arr (t := 2) (by decide) (by decide))) (by
      have := RA.app (v := M (om + 1) (24 * r + i)) hA
      rw [hlt] at this
      rw [List.take_add_one, hD.2.2 i hix]
      exact this)
    refine ⟨M', ?_, f1.trans a2, a3⟩
    unfold lp_X10_copy_1
    rw [e2, l2, if_pos hgr, nI_clamp (by omega), hD.1, if_neg (nI_ge (by omega) (by omega)), nI_24, e1, l1, e15, l15, if_pos (j_g_nI (by omega) (by omega)), if_pos (j_g_nI (by omega) (by omega)), nI_clamp (by omega), nI_clamp (by omega), nI_1]
    exact a1
theorem m_copy (hy : MdAt Y om) (hD : DM M om ds) (hH : HM M om hs) {f r : Nat} (hf : f < 4) (hr : r < 4) :
    ∃ M', s_X10_copy Y M om (nI f) (nI r) = some (nI (ds f).length, M') ∧ MF om [1, 2, 4, 5, 6, 9] [0, 10] M M' ∧ M' om 0 = 0 ∧ DM M' om (f_up ds r (ds f)) ∧ HM M' om (((r, ds r) :: hs).take 8) := by
  have e2 : j_rf Y om 2 = om + 2 := (hy (2, 2, 4) (by decide)).1
  have l2 : j_ln Y (om + 2) = 4 := (hy (2, 2, 4) (by decide)).2
  have e15 : j_rf Y om 15 = om + 9 := (hy (15, 9, 2000) (by decide)).1
  have l15 : j_ln Y (om + 9) = 2000 := (hy (15, 9, 2000) (by decide)).2
  have h24 := (hD.dr hf).2.1
  obtain ⟨M1, a1, a2, a3⟩ := m_remembers hy hH hr (hD.dr hr)
  have hD1 : DM M1 om ds := hD.eq (a2.arr (t := 1) (by decide) (by decide)) (a2.arr (t := 2) (by decide) (by decide))
  obtain ⟨M2, b1, b2, b3⟩ := m_copy_loop hy hf (xs := ds f) (ds f).length 0 j_fuel M1 (by omega) (j_fuel_gt (by omega)) (hD1.dr hf) (fun i hi => absurd hi (by rw [List.length_take]; omega))
  have hD2 : DM M2 om ds := hD1.eq (b2.arr (t := 1) (by decide) (by decide)) (b2.arr (t := 2) (by decide) (by decide))
  obtain ⟨M3, c1, c2, c3⟩ := m_holds hy hr (tq := 9) (by decide) l15 (by decide) (xs := ds f) (by omega) h24 b3 hD2
  have f4 : MF om [] [0] M3 (j_up M3 om 0 0) := MF.uf
  have F : MF om [1, 2, 9] [0] M1 (j_up M3 om 0 0) := ((b2.mono (by simp) (by simp)).trans (c2.mono (by simp) (by simp))).trans (f4.mono (by simp) (by simp))
  have cr := (c3.dr hr).1
  rw [f_up_s] at cr
  refine ⟨j_up M3 om 0 0, ?_, (a2.mono (by simp) (by simp)).trans (F.mono (by simp) (by simp)), j_up_s, c3.eq (f4.arr (t := 1) (by decide) (by decide)) (f4.arr (t := 2) (by decide) (by decide)), a3.fr F (by decide) (by decide) (by decide)⟩
  unfold s_X10_copy
  rw [if_neg (by rintro (c | c); exact m_isRegT hf c; exact m_isRegT hr c), a1]
  dsimp only [Option.bind]
  rw [nI_0] at b1
  rw [b1]
  dsimp only
  rw [e2, l2, if_pos (j_g_nI hf (by omega)), nI_clamp (by omega), (hD2.dr hf).1, e15, c1]
  dsimp only
  rw [if_pos (j_g_nI hr (by omega)), nI_clamp (by omega), cr]
  rfl
theorem m_isSame (hy : MdAt Y om) (hD : DM M om ds) {a b : Nat} (ha : a < 4) (hb : b < 4) :
    s_X10_isSame Y M om (nI a) (nI b) = some (if ds a = ds b then 1 else 0, j_up M om 0 0) := by
  have e1 : j_rf Y om 1 = om + 1 := (hy (1, 1, 96) (by decide)).1
  have l1 : j_ln Y (om + 1) = 96 := (hy (1, 1, 96) (by decide)).2
  have e2 : j_rf Y om 2 = om + 2 := (hy (2, 2, 4) (by decide)).1
  have l2 : j_ln Y (om + 2) = 4 := (hy (2, 2, 4) (by decide)).2
  have hga : j_g (nI a) 4 := j_g_nI ha (by omega)
  have hgb : j_g (nI b) 4 := j_g_nI hb (by omega)
  have hA := hD.dr ha
  have hB := hD.dr hb
  have ha24 := hA.2.1
  have hb24 := hB.2.1
  have e10 : ¬ (1 : Int32) = 0 := by decide
  have zero : ∀ (k n : Nat), lp_X10_isSame_1 Y (nI a) om M (nI b) (n + 1) 0 (nI k) = some 0 := by
    intro k n
    unfold lp_X10_isSame_1
    rw [e2, l2, if_pos hga, if_pos (Or.inr rfl)]
  have hfu : j_fuel = 9999 + 1 := rfl
  have loop : (ds a).length = (ds b).length → ∀ (d k n : Nat), (ds a).length = k + d → d < n → ∃ v, lp_X10_isSame_1 Y (nI a) om M (nI b) n 1 (nI k) = some v ∧ (v = 0 ∨ v = 1) ∧ (v = 1 ↔ ∀ t, k ≤ t → t < (ds a).length → ((ds a)[t]?).getD (-1) = ((ds b)[t]?).getD (-1)) := by
    intro hlen d
    induction d with
    | zero =>
      intro k n hk hn
      obtain ⟨n, rfl⟩ : ∃ z, n = z + 1 := ⟨n - 1, by omega⟩
      refine ⟨1, ?_, Or.inr rfl, ⟨fun _ t a b => by omega, fun _ => rfl⟩⟩
      unfold lp_X10_isSame_1
      rw [e2, l2, if_pos hga, nI_clamp (by omega), hA.1, if_pos (Or.inl (nI_le (by omega) (by omega)))]
    | succ d ih =>
      intro k n hk hn
      obtain ⟨n, rfl⟩ : ∃ z, n = z + 1 := ⟨n - 1, by omega⟩
      unfold lp_X10_isSame_1
      rw [e2, l2, if_pos hga, nI_clamp (by omega), hA.1, if_neg (by rintro (c | c); exact nI_ge (by omega) (by omega) c; exact e10 c), nI_24, nI_24, e1, l1, if_pos (j_g_nI (by omega) (by omega)), if_pos (j_g_nI (by omega) (by omega)), nI_clamp (by omega), nI_clamp (by omega), hA.get (by omega), hB.get (by omega)]
      dsimp only [lt_]
      rw [nI_1]
      by_cases q : ((ds a)[k]?).getD (-1) = ((ds b)[k]?).getD (-1)
      · rw [if_pos q]
        obtain ⟨v, c1, c2, c3⟩ := ih (k + 1) n (by omega) (by omega)
        refine ⟨v, c1, c2, c3.trans ⟨fun h t a b => ?_, fun h t a b => h t (by omega) b⟩⟩
        by_cases e : t = k
        · rw [e]; exact q
        · exact h t (by omega) b
      · rw [if_neg q]
        obtain ⟨n, rfl⟩ : ∃ z, n = z + 1 := ⟨n - 1, by omega⟩
        exact ⟨0, zero _ _, Or.inl rfl, ⟨fun c => absurd c (by decide), fun h => absurd (h k (Nat.le_refl _) (by omega)) q⟩⟩
  unfold s_X10_isSame
  rw [if_neg (by rintro (c | c); exact m_isRegT ha c; exact m_isRegT hb c), e2, l2, if_pos hga, if_pos hgb, nI_clamp (by omega), nI_clamp (by omega), hA.1, hB.1]
  dsimp only [lt_]
  by_cases q : (ds a).length = (ds b).length
  · rw [if_pos (by rw [q])]
    obtain ⟨v, c1, c2, c3⟩ := loop q (ds a).length 0 j_fuel (by omega) (j_fuel_gt (by omega))
    rw [nI_0] at c1
    rw [c1]
    dsimp only [Option.bind]
    have hse := l_seg_eq (xs := ds a) (ys := ds b) (b := 0) (e := (ds a).length) (b' := 0) (e' := (ds b).length) (Nat.le_refl _) (Nat.le_refl _) (by omega) (Nat.zero_le _)
    rw [l_seg_all, l_seg_all] at hse
    have c4 : v = 1 ↔ ds a = ds b := by
      rw [c3, hse]
      constructor
      · intro h t ht
        rw [Nat.zero_add]
        exact h t (Nat.zero_le _) (by omega)
      · intro h t _ ht
        have := h t (by omega)
        rw [Nat.zero_add] at this
        exact this
    by_cases q2 : ds a = ds b
    · rw [if_pos q2, c4.mpr q2]
      rfl
    · rw [if_neg q2]
      rcases c2 with c2 | c2
      · rw [c2]
        rfl
      · exact absurd (c4.mp c2) q2
  · rw [if_neg (fun c => q ((nI_eq (by omega) (by omega)).mp c)), hfu]
    have z := zero 0 9999
    rw [nI_0] at z
    rw [z, if_neg (fun c => q (by rw [c]))]
    rfl
theorem m_distance (hy : MdAt Y om) (hD : DM M om ds) {a b : Nat} (ha : a < 4) (hb : b < 4) :
    ∃ M', s_X10_distance Y M om (nI a) (nI b) = some (nI (ds a).length + nI (ds b).length - 2 * nI (q_L (ds a) (ds b) (ds a).length (ds b).length 0 0), M') ∧ MF om [10, 13, 14] [0] M M' ∧ M' om 0 = 0 := by
  have e23 : j_rf Y om 23 = om + 13 := (hy (23, 13, 24) (by decide)).1
  have l23 : j_ln Y (om + 13) = 24 := (hy (23, 13, 24) (by decide)).2
  have e24 : j_rf Y om 24 = om + 14 := (hy (24, 14, 24) (by decide)).1
  have l24 : j_ln Y (om + 14) = 24 := (hy (24, 14, 24) (by decide)).2
  have ha24 := (hD.dr ha).2.1
  have hb24 := (hD.dr hb).2.1
  obtain ⟨M1, a1, a2, a3⟩ := m_takes hy hD ha (tq := 13) l23 (by decide)
  obtain ⟨M2, b1, b2, b3⟩ := m_takes hy (hD.eq (a2.arr (t := 1) (by decide) (by decide)) (a2.arr (t := 2) (by decide) (by decide))) hb (tq := 14) l24 (by decide)
  obtain ⟨M3, c1, c2, c3⟩ := m_measures hy l23 l24 (by decide) (by decide) (xs := ds a) (ys := ds b) (i1 := (ds a).length) (j0 := 0) (j1 := (ds b).length) (Nat.le_refl _) (Nat.le_refl _) ha24 hb24 (Nat.zero_le _) (i0 := 0) (Nat.zero_le _) (a3.eq (b2.arr (t := 13) (by decide) (by decide))) b3
  have f4 : MF om [] [0] M3 (j_up M3 om 0 0) := MF.uf
  refine ⟨j_up M3 om 0 0, ?_, (((a2.mono (by simp) (by simp)).trans (b2.mono (by simp) (by simp))).trans (c2.mono (by simp) (by simp))).trans (f4.mono (by simp) (by simp)), j_up_s⟩
  unfold s_X10_distance
  rw [if_neg (by rintro (c | c); exact m_isRegT ha c; exact m_isRegT hb c), e23, e24, a1]
  dsimp only [Option.bind, lt_]
  rw [b1]
  dsimp only
  rw [nI_0] at c1
  rw [c1]
  dsimp only
  have hlo := p_longestOf (M := M3) hy (i := 0) (j := 0) (by omega) (by omega)
  rw [nI_0] at hlo
  rw [hlo, c3 0 (Nat.le_refl _) (Nat.zero_le _) 0 (Nat.le_refl _) (Nat.zero_le _)]
  rfl
end DOD

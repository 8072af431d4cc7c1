/-! ===== pure: merges; the model's results ===== -/
def OT (M : JM) (om : Nat) (acc : List Int32) : Prop := M om 18 = nI acc.length ∧ RA M (om + 9) acc
theorem RA.app {M : JM} {a : Nat} {acc : List Int32} {v : Int32} (h : RA M a acc) : RA (j_up M a acc.length v) a (acc ++ [v]) := by
  intro i hi
  rw [List.length_append, List.length_singleton] at hi
  by_cases e : i < acc.length
  · rw [List.getElem?_append_left e, j_up_k (by omega)]
    exact h i e
  · have e2 : i = acc.length := by omega
    rw [e2, j_up_s, List.getElem?_append_right (Nat.le_refl _), Nat.sub_self]
    rfl
theorem k_cr_at {cs : List CK} {k : Nat} {c : CK} (hc : cs[k]? = some c) (h4 : c.1 = 4) : (k_cr 0 cs)[(k_cr 0 (cs.take k)).length]? = some k := by
  have hk : k < cs.length := by
    apply Classical.byContradiction
    intro q
    rw [List.getElem?_eq_none (by omega)] at hc
    exact absurd hc (by simp)
  have e : cs = cs.take k ++ cs.drop k := (List.take_append_drop k cs).symm
  have e2 := List.drop_eq_getElem_cons hk
  have e3 : cs[k] = c := by
    rw [List.getElem?_eq_getElem hk] at hc
    exact Option.some.inj hc
  rw [e3] at e2
  have e4 : k_cr 0 cs = k_cr 0 (cs.take k) ++ k_cr k (cs.drop k) := by
    have e5 := k_cr_app (cs.take k) (cs.drop k) 0
    rw [List.take_append_drop, Nat.zero_add, List.length_take, Nat.min_eq_left (by omega)] at e5
    exact e5
  rw [e4, List.getElem?_append_right (Nat.le_refl _), Nat.sub_self, e2, k_cr_c, if_pos h4]
  rfl
theorem k_cr_take {cs : List CK} {k : Nat} {c : CK} (hc : cs[k]? = some c) : (k_cr 0 (cs.take (k + 1))).length = (k_cr 0 (cs.take k)).length + if c.1 = 4 then 1 else 0 := by
  rw [List.take_add_one, hc, k_cr_app, List.length_append]
  show _ + (k_cr _ [c]).length = _
  rw [k_cr_c]
  split <;> rfl
section MMR
variable {Y : JY} {M : JM} {om : Nat} {bs ls rs : List Int32} {cs : List CK} {cf : Nat → Int32} {acc : List Int32}
theorem m_mark (hy : MdAt Y om) (h : OT M om acc) (hl : acc.length < 2000) (v : Int32) : ∃ M', s_X10_mark Y M om v = some M' ∧ MF om [9] [18] M M' ∧ OT M' om (acc ++ [v]) := by
  have e15 : j_rf Y om 15 = om + 9 := (hy (15, 9, 2000) (by decide)).1
  have l15 : j_ln Y (om + 9) = 2000 := (hy (15, 9, 2000) (by decide)).2
  obtain ⟨h1, h2⟩ := h
  have f1 : MF om [9] [] M (j_up M (om + 9) acc.length v) := MF.ua
  have f2 : MF om [] [18] (j_up M (om + 9) acc.length v) (j_up (j_up M (om + 9) acc.length v) om 18 (nI (acc.length + 1))) := MF.uf
  refine ⟨j_up (j_up M (om + 9) acc.length v) om 18 (nI (acc.length + 1)), ?_, (f1.mono (by simp) (by simp)).trans (f2.mono (by simp) (by simp)), ?_, ?_⟩
  · unfold s_X10_mark
    rw [e15, l15, h1, if_pos (j_g_nI hl (by omega)), nI_clamp (by omega)]
    dsimp only [lt_]
    rw [f1.fld (by decide) (by decide), h1, nI_1]
  · rw [j_up_s, List.length_append]
    rfl
  · exact h2.app.eq (f2.arr (t := 9) (by decide) (by decide))
theorem m_goesOut (hy : MdAt Y om) {tq cap : Nat} (htq : tq ≠ 9 ∧ tq ≠ 0) (hlq : j_ln Y (om + tq) = cap) (hcap : cap < 2500) {xs : List Int32} (hxl : xs.length ≤ cap) {e : Nat} (he : e ≤ xs.length) :
    ∀ (d b n : Nat) (M : JM) (acc : List Int32), e = b + d → d < n → RA M (om + tq) xs → OT M om acc → acc.length + d ≤ 2000 →
      ∃ M', lp_X10_goesOut_1 Y (nI e) (om + tq) om n (nI b) M = some M' ∧ MF om [9] [18] M M' ∧ OT M' om (acc ++ l_seg xs b e) := by
  have e15 : j_rf Y om 15 = om + 9 := (hy (15, 9, 2000) (by decide)).1
  have l15 : j_ln Y (om + 9) = 2000 := (hy (15, 9, 2000) (by decide)).2
  intro d
  induction d with
  | zero =>
    intro b n M acc hb hn hx h hl
    obtain ⟨n, rfl⟩ : ∃ z, n = z + 1 := ⟨n - 1, by omega⟩
    refine ⟨M, ?_, MF.refl, by rw [l_seg_nil (by omega), List.append_nil]; exact h⟩
    unfold lp_X10_goesOut_1
    rw [if_pos (nI_le (by omega) (by omega))]
  | succ d ih =>
    intro b n M acc hb hn hx h hl
    obtain ⟨n, rfl⟩ : ∃ z, n = z + 1 := ⟨n - 1, by omega⟩
    obtain ⟨h1, h2⟩ := h
    have hbx : b < xs.length := by omega
    have f1 : MF om [9] [] M (j_up M (om + 9) acc.length xs[b]) := MF.ua
    have f2 : MF om [] [18] (j_up M (om + 9) acc.length xs[b]) (j_up (j_up M (om + 9) acc.length xs[b]) om 18 (nI (acc.length + 1))) := MF.uf
    have F : MF om [9] [18] M (j_up (j_up M (om + 9) acc.length xs[b]) om 18 (nI (acc.length + 1))) := (f1.mono (by simp) (by simp)).trans (f2.mono (by simp) (by simp))
    obtain ⟨M', a1, a2, a3⟩ := ih (b + 1) n (j_up (j_up M (om + 9) acc.length xs[b]) om 18 (nI (acc.length + 1))) (acc ++ [xs[b]]) (by omega) (by omega) (hx.eq (F.arr (by simp; omega) htq.2)) ⟨by rw [j_up_s, List.length_append]; rfl, h2.app.eq (f2.arr (t := 9) (by decide) (by decide))⟩ (by rw [List.length_append, List.length_singleton]; omega)
    refine ⟨M', ?_, F.trans a2, ?_⟩
    · unfold lp_X10_goesOut_1
      rw [if_neg (nI_ge (by omega) (by omega)), hlq, e15, l15, h1, if_pos (j_g_nI (by omega) (by omega)), if_pos (j_g_nI (by omega) (by omega)), nI_clamp (by omega), nI_clamp (by omega), hx.get hbx]
      dsimp only [lt_]
      rw [f1.fld (by decide) (by decide), h1, nI_1, nI_1]
      exact a1
    · rw [l_seg_step (by omega) hbx]
      rw [List.append_assoc] at a3
      exact a3
theorem m_goes (hy : MdAt Y om) {tq cap : Nat} (htq : tq ≠ 9 ∧ tq ≠ 0) (hlq : j_ln Y (om + tq) = cap) (hcap : cap < 2500) {xs : List Int32} (hxl : xs.length ≤ cap) {b e : Nat} (hb : b ≤ e) (he : e ≤ xs.length) (hx : RA M (om + tq) xs) (h : OT M om acc) (hl : acc.length + (e - b) ≤ 2000) :
      ∃ M', s_X10_goesOut Y M om (om + tq) (nI b) (nI e) = some M' ∧ MF om [9] [18] M M' ∧ OT M' om (acc ++ l_seg xs b e) := by
  obtain ⟨M', a1, a2, a3⟩ := m_goesOut hy htq hlq hcap hxl he (e - b) b j_fuel M acc (by omega) (j_fuel_gt (by omega)) hx h hl
  refine ⟨M', ?_, a2, a3⟩
  unfold s_X10_goesOut
  rw [a1]
  rfl
/-- what telling a merge's result needs -/
def RW (M : JM) (om : Nat) (bs ls rs : List Int32) (cs : List CK) : Prop := RA M (om + 22) bs ∧ RA M (om + 23) ls ∧ RA M (om + 24) rs ∧ M om 48 = nI cs.length ∧ TBm M (om + 27) 7 (cs.map k_row)
theorem RW.fr {M' : JM} (h : RW M om bs ls rs cs) {A F : List Nat} (hf : MF om A F M M') (h0 : 0 ∉ A) (hA : ∀ t ∈ [22, 23, 24, 27], t ∉ A) (hF : 48 ∉ F) : RW M' om bs ls rs cs := by
  obtain ⟨a1, a2, a3, a4, a5⟩ := h
  have g : ∀ t, t ∈ [22, 23, 24, 27] → M' (om + t) = M (om + t) := fun t ht => hf.arr (hA t ht) (by rintro rfl; simp at ht)
  exact ⟨a1.eq (g 22 (by decide)), a2.eq (g 23 (by decide)), a3.eq (g 24 (by decide)), by rw [hf.fld hF h0]; exact a4, a5.eq (g 27 (by decide))⟩
theorem RW.at (h : RW M om bs ls rs cs) {r : Nat} {c : CK} (hc : cs[r]? = some c) {t : Nat} (ht : t < 7) : M (om + 27) (7 * r + t) = ((k_row c)[t]?).getD (-1) := by
  have hr : r < cs.length := by
    apply Classical.byContradiction
    intro q
    rw [List.getElem?_eq_none (by omega)] at hc
    exact absurd hc (by simp)
  have e := h.2.2.2.2 r (by rw [List.length_map]; exact hr) t ht
  rw [← e]
  unfold t_at
  rw [List.getElem?_map, hc]
  rfl
theorem m_resolvedOut (hy : MdAt Y om) (hb24 : bs.length ≤ 24) (hx24 : ls.length ≤ 24) (hy24 : rs.length ≤ 24) (hW : RW M om bs ls rs cs) {r : Nat} {c : CK} (hc : cs[r]? = some c) (hl : cs.length ≤ 100) (hv : CV bs.length ls.length rs.length c) (h4 : c.1 = 4) (h : OT M om acc) (ha : acc.length ≤ 1800)
    {v : Int32} (hv5 : v = -1 ∨ v = 0 ∨ v = 1 ∨ v = 2 ∨ v = 3 ∨ v = 4) :
    ∃ M', s_X10_resolvedOut Y M om (nI (7 * r)) v = some M' ∧ MF om [9] [18] M M' ∧ OT M' om (acc ++ k_out bs ls rs c v) := by
  have hr : r < cs.length := by
    apply Classical.byContradiction
    intro q
    rw [List.getElem?_eq_none (by omega)] at hc
    exact absurd hc (by simp)
  have e47 : j_rf Y om 47 = om + 27 := (hy (47, 27, 700) (by decide)).1
  have l47 : j_ln Y (om + 27) = 700 := (hy (47, 27, 700) (by decide)).2
  have e39 : j_rf Y om 39 = om + 22 := (hy (39, 22, 24) (by decide)).1
  have l39 : j_ln Y (om + 22) = 24 := (hy (39, 22, 24) (by decide)).2
  have e41 : j_rf Y om 41 = om + 23 := (hy (41, 23, 24) (by decide)).1
  have l41 : j_ln Y (om + 23) = 24 := (hy (41, 23, 24) (by decide)).2
  have e43 : j_rf Y om 43 = om + 24 := (hy (43, 24, 24) (by decide)).1
  have l43 : j_ln Y (om + 24) = 24 := (hy (43, 24, 24) (by decide)).2
  obtain ⟨q, hq⟩ : ∃ z, z = 7 * r := ⟨_, rfl⟩
  rw [← hq]
  have g : ∀ k, k < 7 → j_g (nI (q + k)) 700 := fun k hk => j_g_nI (by omega) (by omega)
  have gc : ∀ k, k < 7 → (nI (q + k)).toNatClampNeg = q + k := fun k hk => nI_clamp (by omega)
  have at1 : ∀ {N : JM}, RW N om bs ls rs cs → N (om + 27) (q + 1) = nI c.2.1 := fun w => by rw [hq]; exact w.at hc (show 1 < 7 by decide)
  have at2 : ∀ {N : JM}, RW N om bs ls rs cs → N (om + 27) (q + 2) = nI c.2.2.1 := fun w => by rw [hq]; exact w.at hc (show 2 < 7 by decide)
  have at3 : ∀ {N : JM}, RW N om bs ls rs cs → N (om + 27) (q + 3) = nI c.2.2.2.1 := fun w => by rw [hq]; exact w.at hc (show 3 < 7 by decide)
  have at4 : ∀ {N : JM}, RW N om bs ls rs cs → N (om + 27) (q + 4) = nI c.2.2.2.2.1 := fun w => by rw [hq]; exact w.at hc (show 4 < 7 by decide)
  have at5 : ∀ {N : JM}, RW N om bs ls rs cs → N (om + 27) (q + 5) = nI c.2.2.2.2.2.1 := fun w => by rw [hq]; exact w.at hc (show 5 < 7 by decide)
  have at6 : ∀ {N : JM}, RW N om bs ls rs cs → N (om + 27) (q + 6) = nI c.2.2.2.2.2.2 := fun w => by rw [hq]; exact w.at hc (show 6 < 7 by decide)
  have hl9 : (l_seg ls c.2.2.2.1 c.2.2.2.2.1).length ≤ 24 := by rw [l_seg_len hv.2.2.1.2]; have := hv.2.2.1.2; omega
  have hr9 : (l_seg rs c.2.2.2.2.2.1 c.2.2.2.2.2.2).length ≤ 24 := by rw [l_seg_len hv.2.2.2.2]; have := hv.2.2.2.2; omega
  have W : ∀ {N : JM}, MF om [9] [18] M N → RW N om bs ls rs cs := fun f => hW.fr f (by decide) (by decide) (by decide)
  have L : ∀ {N : JM} {a : List Int32}, RW N om bs ls rs cs → OT N om a → a.length ≤ 1900 → ∃ N', s_X10_goesOut Y N om (om + 23) (nI c.2.2.2.1) (nI c.2.2.2.2.1) = some N' ∧ MF om [9] [18] N N' ∧ OT N' om (a ++ l_seg ls c.2.2.2.1 c.2.2.2.2.1) := fun w hO hl => m_goes hy (by decide) l41 (by decide) hx24 hv.2.2.1.1 hv.2.2.1.2 w.2.1 hO (by have := hv.2.2.1.2; omega)
  have R : ∀ {N : JM} {a : List Int32}, RW N om bs ls rs cs → OT N om a → a.length ≤ 1900 → ∃ N', s_X10_goesOut Y N om (om + 24) (nI c.2.2.2.2.2.1) (nI c.2.2.2.2.2.2) = some N' ∧ MF om [9] [18] N N' ∧ OT N' om (a ++ l_seg rs c.2.2.2.2.2.1 c.2.2.2.2.2.2) := fun w hO hl => m_goes hy (by decide) l43 (by decide) hy24 hv.2.2.2.1 hv.2.2.2.2 w.2.2.1 hO (by have := hv.2.2.2.2; omega)
  have n1 : nI q + (1 : Int32) = nI (q + 1) := nI_add _ 1
  have n2 : nI q + (2 : Int32) = nI (q + 2) := nI_add _ 2
  have n3 : nI q + (3 : Int32) = nI (q + 3) := nI_add _ 3
  have n4 : nI q + (4 : Int32) = nI (q + 4) := nI_add _ 4
  have n5 : nI q + (5 : Int32) = nI (q + 5) := nI_add _ 5
  have n6 : nI q + (6 : Int32) = nI (q + 6) := nI_add _ 6
  unfold s_X10_resolvedOut k_out
  rw [if_pos h4]
  simp only [e39, e41, e43, e47, l47, n1, n2, n3, n4, n5, n6, if_pos (g 1 (by decide)), if_pos (g 2 (by decide)), if_pos (g 3 (by decide)), if_pos (g 4 (by decide)), if_pos (g 5 (by decide)), if_pos (g 6 (by decide)), gc 1 (by decide), gc 2 (by decide), gc 3 (by decide), gc 4 (by decide), gc 5 (by decide), gc 6 (by decide)]
  rcases hv5 with e | e | e | e | e | e
  · subst e
    obtain ⟨M1, a1, a2, a3⟩ := m_mark hy h (by omega) (-1)
    obtain ⟨M2, b1, b2, b3⟩ := L (W a2) a3 (by rw [List.length_append, List.length_singleton]; omega)
    have F2 := a2.trans b2
    have l2 : (acc ++ [-1] ++ l_seg ls c.2.2.2.1 c.2.2.2.2.1).length ≤ acc.length + 25 := by rw [List.length_append, List.length_append, List.length_singleton]; omega
    obtain ⟨M3, c1, c2, c3⟩ := m_mark hy b3 (by omega) (-2)
    have F3 := F2.trans c2
    have l3 : (acc ++ [-1] ++ l_seg ls c.2.2.2.1 c.2.2.2.2.1 ++ [-2]).length ≤ acc.length + 26 := by rw [List.length_append, List.length_singleton]; omega
    obtain ⟨M4, d1, d2, d3⟩ := R (W F3) c3 (by omega)
    have F4 := F3.trans d2
    have l4 : (acc ++ [-1] ++ l_seg ls c.2.2.2.1 c.2.2.2.2.1 ++ [-2] ++ l_seg rs c.2.2.2.2.2.1 c.2.2.2.2.2.2).length ≤ acc.length + 50 := by rw [List.length_append]; omega
    obtain ⟨M5, f1, f2, f3⟩ := m_mark hy d3 (by omega) (-3)
    refine ⟨M5, ?_, F4.trans f2, ?_⟩
    · simp only [Option.bind_some, if_true, eq_self, or_true, show ((-1 : Int32) = 3) = False from eq_false (by decide), show ((-1 : Int32) = 4) = False from eq_false (by decide), if_false, a1, at3 (W a2), at4 (W a2), b1, c1, at5 (W F3), at6 (W F3), d1, f1]
    · simp only [show ((-1 : Int32) = 0) = False from eq_false (by decide), show ((-1 : Int32) = 1) = False from eq_false (by decide), show ((-1 : Int32) = 2) = False from eq_false (by decide), show ((-1 : Int32) = 3) = False from eq_false (by decide), show ((-1 : Int32) = 4) = False from eq_false (by decide), if_false]
      simp only [List.append_assoc] at f3 ⊢
      exact f3
  · subst e
    obtain ⟨M1, a1, a2, a3⟩ := L hW h (by omega)
    refine ⟨M1, ?_, a2, ?_⟩
    · simp only [Option.bind_some, if_true, eq_self, true_or, show ((0 : Int32) = -1) = False from eq_false (by decide), show ((0 : Int32) = 1) = False from eq_false (by decide), show ((0 : Int32) = 2) = False from eq_false (by decide), show ((0 : Int32) = 3) = False from eq_false (by decide), show ((0 : Int32) = 4) = False from eq_false (by decide), or_self, if_false, a1, at3 hW, at4 hW]
    · simp only [if_true]
      exact a3
  · subst e
    obtain ⟨M1, a1, a2, a3⟩ := R hW h (by omega)
    refine ⟨M1, ?_, a2, ?_⟩
    · simp only [Option.bind_some, if_true, eq_self, true_or, show ((1 : Int32) = -1) = False from eq_false (by decide), show ((1 : Int32) = 0) = False from eq_false (by decide), show ((1 : Int32) = 2) = False from eq_false (by decide), show ((1 : Int32) = 3) = False from eq_false (by decide), show ((1 : Int32) = 4) = False from eq_false (by decide), or_self, if_false, a1, at5 hW, at6 hW]
    · simp only [if_true, show ((1 : Int32) = 0) = False from eq_false (by decide), if_false]
      exact a3
  · subst e
    obtain ⟨M1, a1, a2, a3⟩ := L hW h (by omega)
    obtain ⟨M2, b1, b2, b3⟩ := R (W a2) a3 (by rw [List.length_append]; omega)
    refine ⟨M2, ?_, a2.trans b2, ?_⟩
    · simp only [Option.bind_some, if_true, eq_self, true_or, or_true, show ((2 : Int32) = -1) = False from eq_false (by decide), show ((2 : Int32) = 0) = False from eq_false (by decide), show ((2 : Int32) = 1) = False from eq_false (by decide), show ((2 : Int32) = 3) = False from eq_false (by decide), show ((2 : Int32) = 4) = False from eq_false (by decide), or_self, if_false, a1, at3 hW, at4 hW, at5 (W a2), at6 (W a2), b1]
    · simp only [if_true, show ((2 : Int32) = 0) = False from eq_false (by decide), show ((2 : Int32) = 1) = False from eq_false (by decide), if_false]
      rw [List.append_assoc] at b3
      exact b3
  · subst e
    obtain ⟨M1, a1, a2, a3⟩ := R hW h (by omega)
    obtain ⟨M2, b1, b2, b3⟩ := L (W a2) a3 (by rw [List.length_append]; omega)
    refine ⟨M2, ?_, a2.trans b2, ?_⟩
    · simp only [Option.bind_some, if_true, eq_self, true_or, or_true, show ((3 : Int32) = -1) = False from eq_false (by decide), show ((3 : Int32) = 0) = False from eq_false (by decide), show ((3 : Int32) = 1) = False from eq_false (by decide), show ((3 : Int32) = 2) = False from eq_false (by decide), show ((3 : Int32) = 4) = False from eq_false (by decide), or_self, if_false, a1, at5 hW, at6 hW, at3 (W a2), at4 (W a2), b1]
    · simp only [if_true, show ((3 : Int32) = 0) = False from eq_false (by decide), show ((3 : Int32) = 1) = False from eq_false (by decide), show ((3 : Int32) = 2) = False from eq_false (by decide), if_false]
      rw [List.append_assoc] at b3
      exact b3
  · subst e
    obtain ⟨M1, a1, a2, a3⟩ := m_goes (tq := 22) hy (by decide) l39 (by decide) hb24 hv.2.1.1 hv.2.1.2 hW.1 h (by have := hv.2.1.2; omega)
    refine ⟨M1, ?_, a2, ?_⟩
    · simp only [Option.bind_some, if_true, eq_self, true_or, show ((4 : Int32) = -1) = False from eq_false (by decide), show ((4 : Int32) = 0) = False from eq_false (by decide), show ((4 : Int32) = 1) = False from eq_false (by decide), show ((4 : Int32) = 2) = False from eq_false (by decide), show ((4 : Int32) = 3) = False from eq_false (by decide), or_self, if_false, a1, at1 hW, at2 hW]
    · simp only [if_true, show ((4 : Int32) = 0) = False from eq_false (by decide), show ((4 : Int32) = 1) = False from eq_false (by decide), show ((4 : Int32) = 2) = False from eq_false (by decide), show ((4 : Int32) = 3) = False from eq_false (by decide), if_false]
      exact a3
end MMR

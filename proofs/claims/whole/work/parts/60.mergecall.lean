/-! ===== pure: merges; the model's calls ===== -/
section MMS
variable {Y : JY} {M : JM} {om : Nat} {bs ls rs : List Int32} {cs : List CK} {cf : Nat → Int32} {acc : List Int32}
/-- choices by conflicts -/
def CH2 (M : JM) (om : Nat) (cs : List CK) (cf : Nat → Int32) : Prop := ∀ t r, (k_cr 0 cs)[t]? = some r → M (om + 28) t = cf r
theorem m_tell_loop (hy : MdAt Y om) (hb24 : bs.length ≤ 24) (hx24 : ls.length ≤ 24) (hy24 : rs.length ≤ 24) (hl : cs.length ≤ 99) (hv : ∀ c ∈ cs, CV bs.length ls.length rs.length c) (hcf : CC cf) : ∀ (d r n : Nat) (M : JM) (acc : List Int32), cs.length = r + d → d < n → RW M om bs ls rs cs → CH2 M om cs cf → OT M om acc →
    acc.length + (3 * (k_cr r (cs.drop r)).length + k_sz (cs.drop r)) ≤ 1800 →
    ∃ M', lp_X10_tellMerged_1 Y om n (nI (k_cr 0 (cs.take r)).length) (nI r) M = some M' ∧ MF om [9] [18] M M' ∧ OT M' om (acc ++ k_res bs ls rs cf r (cs.drop r)) := by
  have e47 : j_rf Y om 47 = om + 27 := (hy (47, 27, 700) (by decide)).1
  have l47 : j_ln Y (om + 27) = 700 := (hy (47, 27, 700) (by decide)).2
  have e49 : j_rf Y om 49 = om + 28 := (hy (49, 28, 100) (by decide)).1
  have l49 : j_ln Y (om + 28) = 100 := (hy (49, 28, 100) (by decide)).2
  have e41 : j_rf Y om 41 = om + 23 := (hy (41, 23, 24) (by decide)).1
  have l41 : j_ln Y (om + 23) = 24 := (hy (41, 23, 24) (by decide)).2
  have e43 : j_rf Y om 43 = om + 24 := (hy (43, 24, 24) (by decide)).1
  have l43 : j_ln Y (om + 24) = 24 := (hy (43, 24, 24) (by decide)).2
  intro d
  induction d with
  | zero =>
    intro r n M acc hr hn hW hC h ha
    obtain ⟨n, rfl⟩ : ∃ z, n = z + 1 := ⟨n - 1, by omega⟩
    refine ⟨M, ?_, MF.refl, ?_⟩
    · unfold lp_X10_tellMerged_1
      rw [hW.2.2.2.1, if_pos (nI_le (by omega) (by omega))]
    · rw [List.drop_eq_nil_of_le (by omega)]
      show OT M om (acc ++ [])
      rw [List.append_nil]
      exact h
  | succ d ih =>
    intro r n M acc hr hn hW hC h ha
    obtain ⟨n, rfl⟩ : ∃ z, n = z + 1 := ⟨n - 1, by omega⟩
    have hr2 : r < cs.length := by omega
    have e := List.drop_eq_getElem_cons hr2
    obtain ⟨c, hcd⟩ : ∃ z, z = cs[r] := ⟨_, rfl⟩
    have hc : cs[r]? = some c := by rw [List.getElem?_eq_getElem hr2, hcd]
    have hcv := hv c (by rw [hcd]; exact List.getElem_mem hr2)
    rw [← hcd] at e
    rw [e, k_cr_c, k_sz_c] at ha
    have hct := k_cr_take hc
    have hcl := k_cr_len (cs.take r) 0
    rw [List.length_take] at hcl
    have g : ∀ k, k < 7 → j_g (nI (7 * r + k)) 700 := fun k hk => j_g_nI (by omega) (by omega)
    have gc : ∀ k, k < 7 → (nI (7 * r + k)).toNatClampNeg = 7 * r + k := fun k hk => nI_clamp (by omega)
    have g0 : j_g (nI (7 * r)) 700 := g 0 (by decide)
    have gc0 : (nI (7 * r)).toNatClampNeg = 7 * r := gc 0 (by decide)
    have n3 : nI (7 * r) + (3 : Int32) = nI (7 * r + 3) := nI_add _ 3
    have n4 : nI (7 * r) + (4 : Int32) = nI (7 * r + 4) := nI_add _ 4
    have n5 : nI (7 * r) + (5 : Int32) = nI (7 * r + 5) := nI_add _ 5
    have n6 : nI (7 * r) + (6 : Int32) = nI (7 * r + 6) := nI_add _ 6
    have at0 : M (om + 27) (7 * r) = nI c.1 := hW.at hc (show 0 < 7 by decide)
    have at3 : M (om + 27) (7 * r + 3) = nI c.2.2.2.1 := hW.at hc (show 3 < 7 by decide)
    have at4 : M (om + 27) (7 * r + 4) = nI c.2.2.2.2.1 := hW.at hc (show 4 < 7 by decide)
    have at5 : M (om + 27) (7 * r + 5) = nI c.2.2.2.2.2.1 := hW.at hc (show 5 < 7 by decide)
    have at6 : M (om + 27) (7 * r + 6) = nI c.2.2.2.2.2.2 := hW.at hc (show 6 < 7 by decide)
    have e4 : nI c.1 = (4 : Int32) ↔ c.1 = 4 := nI_eq (b := 4) (by have := hcv.1; omega) (by omega)
    have e2 : nI c.1 = (2 : Int32) ↔ c.1 = 2 := nI_eq (b := 2) (by have := hcv.1; omega) (by omega)
    have hol := k_out_len (bs := bs) (ls := ls) (rs := rs) (c := c) (v := cf r)
    have fin : ∀ M1, MF om [9] [18] M M1 → OT M1 om (acc ++ k_out bs ls rs c (cf r)) → ∃ M', lp_X10_tellMerged_1 Y om n (nI (k_cr 0 (cs.take (r + 1))).length) (nI (r + 1)) M1 = some M' ∧ MF om [9] [18] M M' ∧ OT M' om (acc ++ k_res bs ls rs cf r (cs.drop r)) := by
      intro M1 f1 o1
      obtain ⟨M', b1, b2, b3⟩ := ih (r + 1) n M1 (acc ++ k_out bs ls rs c (cf r)) (by omega) (by omega) (hW.fr f1 (by decide) (by decide) (by decide)) (fun t r' ht => by rw [f1.arr (t := 28) (by decide) (by decide)]; exact hC t r' ht) o1 (by
        rw [List.length_append]
        by_cases q : c.1 = 4
        · rw [if_pos q] at ha hol
          rw [List.length_cons] at ha
          omega
        · rw [if_neg q] at ha hol
          omega)
      refine ⟨M', b1, f1.trans b2, ?_⟩
      rw [e]
      show OT M' om (acc ++ (k_out bs ls rs c (cf r) ++ k_res bs ls rs cf (r + 1) (cs.drop (r + 1))))
      rw [← List.append_assoc]
      exact b3
    unfold lp_X10_tellMerged_1
    rw [hW.2.2.2.1, if_neg (nI_ge (by omega) (by omega)), nI_7a, e47, l47]
    dsimp only [lt_]
    simp only [if_pos g0, gc0, at0, n3, n4, n5, n6, if_pos (g 3 (by decide)), if_pos (g 4 (by decide)), if_pos (g 5 (by decide)), if_pos (g 6 (by decide)), gc 3 (by decide), gc 4 (by decide), gc 5 (by decide), gc 6 (by decide), at3, at4, at5, at6]
    by_cases q4 : c.1 = 4
    · have hch := hC _ _ (k_cr_at hc q4)
      have hlt : (k_cr 0 (cs.take r)).length < 100 := by omega
      rw [if_pos (e4.mpr q4), e49, l49, if_pos (j_g_nI hlt (by omega)), nI_clamp (by omega), hch]
      rw [if_pos q4] at ha hct
      rw [List.length_cons] at ha
      obtain ⟨M1, a1, a2, a3⟩ := m_resolvedOut hy hb24 hx24 hy24 hW hc (by omega) hcv q4 h (by omega) (hcf r)
      rw [a1]
      dsimp only [Option.bind]
      rw [nI_1, nI_1, ← hct]
      exact fin M1 a2 a3
    · rw [if_neg (fun c => q4 (e4.mp c))]
      rw [if_neg q4] at ha hct
      have hct2 : (k_cr 0 (cs.take r)).length = (k_cr 0 (cs.take (r + 1))).length := by omega
      have hko : k_out bs ls rs c (cf r) = if c.1 = 2 then l_seg rs c.2.2.2.2.2.1 c.2.2.2.2.2.2 else l_seg ls c.2.2.2.1 c.2.2.2.2.1 := by
        unfold k_out
        rw [if_neg q4]
      by_cases q2 : c.1 = 2
      · rw [if_pos (e2.mpr q2), e43]
        rw [if_pos q2] at hko
        obtain ⟨M1, a1, a2, a3⟩ := m_goes hy (show 24 ≠ 9 ∧ 24 ≠ 0 by decide) l43 (by decide) hy24 hcv.2.2.2.1 hcv.2.2.2.2 hW.2.2.1 h (by omega)
        rw [a1]
        dsimp only [Option.bind]
        rw [nI_1, hct2]
        exact fin M1 a2 (by rw [hko]; exact a3)
      · rw [if_neg (fun c => q2 (e2.mp c)), e41]
        rw [if_neg q2] at hko
        obtain ⟨M1, a1, a2, a3⟩ := m_goes hy (show 23 ≠ 9 ∧ 23 ≠ 0 by decide) l41 (by decide) hx24 hcv.2.2.1.1 hcv.2.2.1.2 hW.2.1 h (by omega)
        rw [a1]
        dsimp only [Option.bind]
        rw [nI_1, hct2]
        exact fin M1 a2 (by rw [hko]; exact a3)
theorem MGm.rw (h : MGm M om true bs ls rs cs cf) : MV bs ls rs cs cf ∧ RW M om bs ls rs cs ∧ CH2 M om cs cf := by
  obtain ⟨b1, b2, b3, b4, b5, b6, b7, b8, b9, b10, b11⟩ := h.2 rfl
  exact ⟨b1, ⟨b5, b6, b7, b8, b9⟩, b11⟩
theorem m_tellMerged (hy : MdAt Y om) (h : MGm M om true bs ls rs cs cf) : ∃ M', s_X10_tellMerged Y M om = some M' ∧ MF om [9] [18] M M' ∧ OT M' om (k_res bs ls rs cf 0 cs) := by
  obtain ⟨⟨v1, v2, v3, v4, v5, v6⟩, hW, hC⟩ := h.rw
  have f : MF om [] [18] M (j_up M om 18 0) := MF.uf
  obtain ⟨M', a1, a2, a3⟩ := m_tell_loop hy v1.1 v1.2.1 v1.2.2 v4 v2 v6 cs.length 0 j_fuel (j_up M om 18 0) [] (by omega) (j_fuel_gt (by omega)) (hW.fr f (by decide) (by decide) (by decide)) (fun t r' ht => by rw [f.arr (t := 28) (by decide) (by decide)]; exact hC t r' ht)
    ⟨by rw [j_up_s]; rfl, fun i hi => absurd hi (Nat.not_lt_zero _)⟩ (by
      show 0 + (3 * (k_cr 0 cs).length + k_sz cs) ≤ 1800
      omega)
  refine ⟨M', ?_, (f.mono (by simp) (by simp)).trans a2, a3⟩
  unfold s_X10_tellMerged
  dsimp only [lt_]
  have e0 : nI (k_cr 0 (cs.take 0)).length = 0 := rfl
  rw [e0, nI_0] at a1
  rw [a1]
  rfl
theorem m_openConflicts (hy : MdAt Y om) (h : MGm M om true bs ls rs cs cf) : s_X10_openConflicts Y M om = some (nI (k_op cf (k_cr 0 cs))) := by
  have e49 : j_rf Y om 49 = om + 28 := (hy (49, 28, 100) (by decide)).1
  have l49 : j_ln Y (om + 28) = 100 := (hy (49, 28, 100) (by decide)).2
  obtain ⟨⟨v1, v2, v3, v4, v5, v6⟩, hW, hC⟩ := h.rw
  have h50 := (h.2 rfl).2.2.2.2.2.2.2.2.2.1
  have loop : ∀ (d i n acc : Nat), (k_cr 0 cs).length = i + d → d < n → acc + d ≤ 1000 → lp_X10_openConflicts_1 Y M om n (nI acc) (nI i) = some (nI (acc + k_op cf ((k_cr 0 cs).drop i))) := by
    intro d
    induction d with
    | zero =>
      intro i n acc hi hn ha
      obtain ⟨n, rfl⟩ : ∃ z, n = z + 1 := ⟨n - 1, by omega⟩
      unfold lp_X10_openConflicts_1
      rw [h50, if_pos (nI_le (by omega) (by omega)), List.drop_eq_nil_of_le (by omega)]
      rfl
    | succ d ih =>
      intro i n acc hi hn ha
      obtain ⟨n, rfl⟩ : ∃ z, n = z + 1 := ⟨n - 1, by omega⟩
      have hil : i < (k_cr 0 cs).length := by omega
      have e := List.drop_eq_getElem_cons hil
      obtain ⟨x, hx⟩ : ∃ z, z = (k_cr 0 cs)[i] := ⟨_, rfl⟩
      rw [← hx] at e
      have hcx := hC i x (by rw [List.getElem?_eq_getElem hil, hx])
      unfold lp_X10_openConflicts_1
      rw [h50, if_neg (nI_ge (by omega) (by omega)), e49, l49, if_pos (j_g_nI (by omega) (by omega)), nI_clamp (by omega), hcx, e]
      unfold k_op
      dsimp only [lt_]
      rw [nI_1]
      by_cases q : cf x = -1
      · rw [if_pos q, if_pos q, nI_1, ih (i + 1) n (acc + 1) (by omega) (by omega) (by omega), Nat.add_assoc]
      · rw [if_neg q, if_neg q, Int32.add_zero, ih (i + 1) n acc (by omega) (by omega) (by omega), Nat.zero_add]
  have e := loop (k_cr 0 cs).length 0 j_fuel 0 (by omega) (j_fuel_gt (by omega)) (by omega)
  rw [nI_0, Nat.zero_add] at e
  unfold s_X10_openConflicts
  rw [e]
  rfl
theorem nI_ng (m : Nat) : -(nI m) + (-1) = -(nI (m + 1)) := by
  rw [← nI_1, Int32.neg_add, Int32.sub_eq_add_neg]
theorem nI_ng0 {m : Nat} (h0 : 0 < m) (h : m < 2 ^ 31) : ¬ -(nI m) = 0 := fun c => by
  have : nI m = 0 := by rw [← Int32.neg_neg (a := nI m), c]; rfl
  exact nI_ne0 h0 h this
theorem m_resolve_loop (hy : MdAt Y om) (hb24 : bs.length ≤ 24) (hx24 : ls.length ≤ 24) (hy24 : rs.length ≤ 24) (hl : cs.length ≤ 99) (hv : ∀ c ∈ cs, CV bs.length ls.length rs.length c) {v : Int32} (hv5 : v = -1 ∨ v = 0 ∨ v = 1 ∨ v = 2 ∨ v = 3 ∨ v = 4) {t x : Nat} (ht : (k_cr 0 cs)[t]? = some x) {cx : CK} (hcx : cs[x]? = some cx) :
    ∀ (d r n : Nat) (M : JM) (lf : Int32), cs.length = r + d → d < n → RW M om bs ls rs cs →
    (((k_cr 0 (cs.take r)).length ≤ t ∧ lf = nI (t - (k_cr 0 (cs.take r)).length)) ∨ (∃ m, 0 < m ∧ m + d ≤ 100 ∧ lf = -(nI m) ∧ t < (k_cr 0 (cs.take r)).length ∧ OT M om (k_out bs ls rs cx v))) →
    ∃ M', lp_X10_resolve_1 Y om v n lf (nI r) M = some M' ∧ MF om [9] [18] M M' ∧ OT M' om (k_out bs ls rs cx v) := by
  have e47 : j_rf Y om 47 = om + 27 := (hy (47, 27, 700) (by decide)).1
  have l47 : j_ln Y (om + 27) = 700 := (hy (47, 27, 700) (by decide)).2
  have htl : t < (k_cr 0 cs).length := by
    apply Classical.byContradiction
    intro q
    rw [List.getElem?_eq_none (by omega)] at ht
    exact absurd ht (by simp)
  have hkl := k_cr_len cs 0
  intro d
  induction d with
  | zero =>
    intro r n M lf hr hn hW hS
    obtain ⟨n, rfl⟩ : ∃ z, n = z + 1 := ⟨n - 1, by omega⟩
    refine ⟨M, ?_, MF.refl, ?_⟩
    · unfold lp_X10_resolve_1
      rw [hW.2.2.2.1, if_pos (nI_le (by omega) (by omega))]
    · rcases hS with ⟨h1, -⟩ | ⟨m, -, -, -, -, h5⟩
      · rw [List.take_of_length_le (by omega)] at h1
        omega
      · exact h5
  | succ d ih =>
    intro r n M lf hr hn hW hS
    obtain ⟨n, rfl⟩ : ∃ z, n = z + 1 := ⟨n - 1, by omega⟩
    have hr2 : r < cs.length := by omega
    obtain ⟨c, hcd⟩ : ∃ z, z = cs[r] := ⟨_, rfl⟩
    have hc : cs[r]? = some c := by rw [List.getElem?_eq_getElem hr2, hcd]
    have hcv := hv c (by rw [hcd]; exact List.getElem_mem hr2)
    have hct := k_cr_take hc
    have g0 : j_g (nI (7 * r)) 700 := j_g_nI (by omega) (by omega)
    have gc0 : (nI (7 * r)).toNatClampNeg = 7 * r := nI_clamp (by omega)
    have at0 : M (om + 27) (7 * r) = nI c.1 := hW.at hc (show 0 < 7 by decide)
    have e4 : nI c.1 = (4 : Int32) ↔ c.1 = 4 := nI_eq (b := 4) (by have := hcv.1; omega) (by omega)
    unfold lp_X10_resolve_1
    rw [hW.2.2.2.1, if_neg (nI_ge (by omega) (by omega)), nI_7a, e47, l47, if_pos g0]
    simp only [gc0, at0]
    by_cases q4 : c.1 = 4
    · rw [if_pos (e4.mpr q4)]
      rw [if_pos q4] at hct
      rcases hS with ⟨h1, h2⟩ | ⟨m, h1, h2, h3, h5, h6⟩
      · by_cases q : (k_cr 0 (cs.take r)).length = t
        · have hrx : x = r := by
            have := k_cr_at hc q4
            rw [q, ht] at this
            exact Option.some.inj this
          have hcc : cx = c := by
            rw [hrx, hc] at hcx
            exact (Option.some.inj hcx).symm
          rw [h2, q, Nat.sub_self, if_pos nI_0]
          have f : MF om [] [18] M (j_up M om 18 0) := MF.uf
          obtain ⟨M1, a1, a2, a3⟩ := m_resolvedOut (M := j_up M om 18 0) hy hb24 hx24 hy24 (hW.fr f (by decide) (by decide) (by decide)) hc (by omega) hcv q4 (acc := []) ⟨by rw [j_up_s]; rfl, fun i hi => absurd hi (Nat.not_lt_zero _)⟩ (by decide) hv5
          dsimp only [lt_]
          rw [a1]
          dsimp only [Option.bind]
          rw [nI_1]
          have F : MF om [9] [18] M M1 := (f.mono (by simp) (by simp)).trans a2
          have e1 : nI 0 + (-1 : Int32) = -(nI 1) := by decide
          obtain ⟨M', b1, b2, b3⟩ := ih (r + 1) n M1 (-(nI 1)) (by omega) (by omega) (hW.fr F (by decide) (by decide) (by decide)) (Or.inr ⟨1, by decide, by omega, rfl, by omega, by rw [hcc]; exact a3⟩)
          rw [e1]
          exact ⟨M', b1, F.trans b2, b3⟩
        · have e0 : ¬ lf = 0 := by
            rw [h2]
            exact nI_ne0 (by omega) (by omega)
          rw [if_neg e0]
          dsimp only [Option.bind, lt_]
          rw [nI_1]
          refine ih (r + 1) n M _ (by omega) (by omega) hW (Or.inl ⟨by omega, ?_⟩)
          rw [h2, hct, show t - (k_cr 0 (cs.take r)).length = (t - ((k_cr 0 (cs.take r)).length + 1)) + 1 by omega, nI_dec]
      · have e0 : ¬ lf = 0 := by
          rw [h3]
          exact nI_ng0 h1 (by omega)
        rw [if_neg e0]
        dsimp only [Option.bind, lt_]
        rw [nI_1]
        exact ih (r + 1) n M _ (by omega) (by omega) hW (Or.inr ⟨m + 1, by omega, by omega, by rw [h3, nI_ng], by omega, h6⟩)
    · rw [if_neg (fun c => q4 (e4.mp c))]
      rw [if_neg q4, Nat.add_zero] at hct
      dsimp only [Option.bind, lt_]
      rw [nI_1]
      refine ih (r + 1) n M lf (by omega) (by omega) hW ?_
      rw [hct]
      rcases hS with hS | ⟨m, h1, h2, h3⟩
      · exact Or.inl hS
      · exact Or.inr ⟨m, h1, by omega, h3⟩
theorem CC.up (h : CC cf) {x v : Nat} (hv : v < 5) : CC (f_up cf x (nI v)) := by
  intro r
  by_cases q : r = x
  · rw [q, f_up_s]
    rcases (show v = 0 ∨ v = 1 ∨ v = 2 ∨ v = 3 ∨ v = 4 by omega) with q | q | q | q | q
    · subst q; exact Or.inr (Or.inl nI_0)
    · subst q; exact Or.inr (Or.inr (Or.inl rfl))
    · subst q; exact Or.inr (Or.inr (Or.inr (Or.inl rfl)))
    · subst q; exact Or.inr (Or.inr (Or.inr (Or.inr (Or.inl rfl))))
    · subst q; exact Or.inr (Or.inr (Or.inr (Or.inr (Or.inr rfl))))
  · rw [f_up_n q]
    exact h r
theorem m_resolve (hy : MdAt Y om) (h : MGm M om true bs ls rs cs cf) {t x v : Nat} (ht : (k_cr 0 cs)[t]? = some x) (hv5 : v < 5) {c : CK} (hc : cs[x]? = some c) :
    ∃ M', s_X10_resolve Y M om (nI t) (nI v) = some (nI (k_out bs ls rs c (nI v)).length, M') ∧ MF om [9, 28] [0, 18] M M' ∧ M' om 0 = 0 ∧ MGm M' om true bs ls rs cs (f_up cf x (nI v)) := by
  have e49 : j_rf Y om 49 = om + 28 := (hy (49, 28, 100) (by decide)).1
  have l49 : j_ln Y (om + 28) = 100 := (hy (49, 28, 100) (by decide)).2
  obtain ⟨⟨v1, v2, v3, v4, v5, v6⟩, hW, hC⟩ := h.rw
  obtain ⟨h38, hh⟩ := h
  obtain ⟨b1, b2, b3, b4, b5, b6, b7, b8, b9, b10, b11⟩ := hh rfl
  have htl : t < (k_cr 0 cs).length := by
    apply Classical.byContradiction
    intro q
    rw [List.getElem?_eq_none (by omega)] at ht
    exact absurd ht (by simp)
  have f1 : MF om [28] [] M (j_up M (om + 28) t (nI v)) := MF.ua
  have hvv : nI v = -1 ∨ nI v = 0 ∨ nI v = 1 ∨ nI v = 2 ∨ nI v = 3 ∨ nI v = 4 := by
    have := (CC.up (cf := fun _ => -1) (fun _ => Or.inl rfl) (x := 0) hv5) 0
    rw [f_up_s] at this
    exact this
  obtain ⟨M1, a1, a2, a3⟩ := m_resolve_loop hy v1.1 v1.2.1 v1.2.2 v4 v2 hvv ht hc cs.length 0 j_fuel (j_up M (om + 28) t (nI v)) (nI t) (by omega) (j_fuel_gt (by omega)) (hW.fr f1 (by decide) (by decide) (by decide)) (Or.inl ⟨Nat.zero_le _, rfl⟩)
  have f2 : MF om [] [0] M1 (j_up M1 om 0 0) := MF.uf
  have F : MF om [9, 28] [0, 18] M (j_up M1 om 0 0) := ((f1.mono (by simp) (by simp)).trans (a2.mono (by simp) (by simp))).trans (f2.mono (by simp) (by simp))
  have G : MF om [9] [0, 18] (j_up M (om + 28) t (nI v)) (j_up M1 om 0 0) := (a2.mono (by simp) (by simp)).trans (f2.mono (by simp) (by simp))
  refine ⟨j_up M1 om 0 0, ?_, F, j_up_s, ?_, fun _ => ⟨⟨v1, v2, v3, v4, v5, v6.up hv5⟩, ?_, ?_, ?_, ?_, ?_, ?_, ?_, ?_, ?_, ?_⟩⟩
  · unfold s_X10_resolve
    rw [h38, if_neg (by decide), b10]
    have i1 : ¬ s_X10_in Y M (nI t) 0 (nI (k_cr 0 cs).length - 1) = 0 := by
      rw [m_in]
      rintro (c | c)
      · exact nI_pos (by omega) c
      · rw [show (k_cr 0 cs).length = ((k_cr 0 cs).length - 1) + 1 by omega, nI_pd] at c
        exact nI_nlt (by omega) (by omega) c
    have i2 : ¬ s_X10_in Y M (nI v) 0 (4 : Int32) = 0 := by
      rw [m_in]
      rintro (c | c)
      · exact nI_pos (by omega) c
      · rw [show (4 : Int32) = nI 4 from rfl] at c
        exact nI_nlt (by omega) (by omega) c
    rw [if_neg i1, if_neg i2, e49, l49, if_pos (j_g_nI (by omega) (by omega)), nI_clamp (by omega)]
    dsimp only [lt_]
    rw [nI_0] at a1
    rw [a1]
    dsimp only [Option.bind]
    unfold s_X10_done
    dsimp only [lt_]
    rw [a3.1]
  · rw [F.fld (by decide) (by decide)]; exact h38
  · rw [F.fld (by decide) (by decide)]; exact b2
  · rw [F.fld (by decide) (by decide)]; exact b3
  · rw [F.fld (by decide) (by decide)]; exact b4
  · exact b5.eq (F.arr (t := 22) (by decide) (by decide))
  · exact b6.eq (F.arr (t := 23) (by decide) (by decide))
  · exact b7.eq (F.arr (t := 24) (by decide) (by decide))
  · rw [F.fld (by decide) (by decide)]; exact b8
  · exact b9.eq (F.arr (t := 27) (by decide) (by decide))
  · rw [F.fld (by decide) (by decide)]; exact b10
  · intro t' r' ht'
    rw [G.arr (t := 28) (by decide) (by decide)]
    by_cases q : t' = t
    · rw [q] at ht'
      have : r' = x := Option.some.inj (ht'.symm.trans ht)
      rw [q, this, j_up_s, f_up_s]
    · have q2 : r' ≠ x := fun c => q (k_cr_inj (x := x) (by rw [← c]; exact ht') ht)
      rw [j_up_k q, f_up_n q2]
      exact b11 t' r' ht'
theorem MK.all (h : MK M om cs) : M om 48 = nI cs.length ∧ TBm M (om + 27) 7 (cs.map k_row) ∧ M om 50 = nI (k_cr 0 cs).length ∧ ∀ t r, (k_cr 0 cs)[t]? = some r → M (om + 28) t = (fun _ => -1 : Nat → Int32) r := by
  obtain ⟨a1, a2, a3, a4⟩ := h
  refine ⟨a1, a2, a3, fun t r ht => a4 t ?_⟩
  apply Classical.byContradiction
  intro q
  rw [List.getElem?_eq_none (by omega)] at ht
  exact absurd ht (by simp)
theorem m_merge (hy : MdAt Y om) {ds : Nat → List Int32} (hD : DM M om ds) {a b c : Nat} (ha : a < 4) (hb : b < 4) (hc : c < 4) {mo sh : Int32} (hmo : M om 3 = mo) (hsh : M om 4 = sh) :
    ∃ M', s_X10_merge Y M om (nI a) (nI b) (nI c) = some (nI (k_cr 0 (q_mgs (ds a) (ds b) (ds c) (decide (mo = 1)) (decide (sh ≠ 0)))).length, M') ∧ MF om [10, 11, 12, 22, 23, 24, 25, 26, 27, 28] [0, 22, 38, 40, 42, 44, 48, 50] M M' ∧ M' om 0 = 0 ∧
      MGm M' om true (ds a) (ds b) (ds c) (q_mgs (ds a) (ds b) (ds c) (decide (mo = 1)) (decide (sh ≠ 0))) (fun _ => -1) := by
  have e39 : j_rf Y om 39 = om + 22 := (hy (39, 22, 24) (by decide)).1
  have l39 : j_ln Y (om + 22) = 24 := (hy (39, 22, 24) (by decide)).2
  have e41 : j_rf Y om 41 = om + 23 := (hy (41, 23, 24) (by decide)).1
  have l41 : j_ln Y (om + 23) = 24 := (hy (41, 23, 24) (by decide)).2
  have e43 : j_rf Y om 43 = om + 24 := (hy (43, 24, 24) (by decide)).1
  have l43 : j_ln Y (om + 24) = 24 := (hy (43, 24, 24) (by decide)).2
  have e45 : j_rf Y om 45 = om + 25 := (hy (45, 25, 24) (by decide)).1
  have l45 : j_ln Y (om + 25) = 24 := (hy (45, 25, 24) (by decide)).2
  have e46 : j_rf Y om 46 = om + 26 := (hy (46, 26, 24) (by decide)).1
  have l46 : j_ln Y (om + 26) = 24 := (hy (46, 26, 24) (by decide)).2
  have hxa := (hD a ha).2.1
  have hxb := (hD b hb).2.1
  have hxc := (hD c hc).2.1
  obtain ⟨bs, hbs⟩ : ∃ z, z = ds a := ⟨_, rfl⟩
  obtain ⟨ls, hls⟩ : ∃ z, z = ds b := ⟨_, rfl⟩
  obtain ⟨rs, hrs⟩ : ∃ z, z = ds c := ⟨_, rfl⟩
  have f1 : MF om [] [38] M (j_up M om 38 1) := MF.uf
  obtain ⟨M1, a1, a2, a3⟩ := m_takes hy (hD.eq (f1.arr (t := 1) (by simp) (by decide)) (f1.arr (t := 2) (by simp) (by decide))) ha (tq := 22) l39 (by decide)
  rw [← hbs] at a1 a3 hxa
  have f2 : MF om [] [40] M1 (j_up M1 om 40 (nI bs.length)) := MF.uf
  have g2 : MF om [22] [38, 40] M (j_up M1 om 40 (nI bs.length)) := ((f1.mono (by simp) (by simp)).trans (a2.mono (by simp) (by simp))).trans (f2.mono (by simp) (by simp))
  obtain ⟨M2, b1, b2, b3⟩ := m_takes hy (hD.eq (g2.arr (t := 1) (by simp) (by decide)) (g2.arr (t := 2) (by simp) (by decide))) hb (tq := 23) l41 (by decide)
  rw [← hls] at b1 b3 hxb
  have f3 : MF om [] [42] M2 (j_up M2 om 42 (nI ls.length)) := MF.uf
  have g3 : MF om [22, 23] [38, 40, 42] M (j_up M2 om 42 (nI ls.length)) := ((g2.mono (by simp) (by simp)).trans (b2.mono (by simp) (by simp))).trans (f3.mono (by simp) (by simp))
  obtain ⟨M3, c1, c2, c3⟩ := m_takes hy (hD.eq (g3.arr (t := 1) (by simp) (by decide)) (g3.arr (t := 2) (by simp) (by decide))) hc (tq := 24) l43 (by decide)
  rw [← hrs] at c1 c3 hxc
  have f4 : MF om [] [44] M3 (j_up M3 om 44 (nI rs.length)) := MF.uf
  have g4 : MF om [22, 23, 24] [38, 40, 42, 44] M (j_up M3 om 44 (nI rs.length)) := ((g3.mono (by simp) (by simp)).trans (c2.mono (by simp) (by simp))).trans (f4.mono (by simp) (by simp))
  obtain ⟨M4, hM4⟩ : ∃ z, z = j_up M3 om 44 (nI rs.length) := ⟨_, rfl⟩
  rw [← hM4] at f4 g4
  have r22 : RA M4 (om + 22) bs := ((((a3.eq (f2.arr (t := 22) (by decide) (by decide))).eq (b2.arr (t := 22) (by decide) (by decide))).eq (f3.arr (t := 22) (by decide) (by decide))).eq (c2.arr (t := 22) (by decide) (by decide))).eq (f4.arr (t := 22) (by decide) (by decide))
  have r23 : RA M4 (om + 23) ls := ((b3.eq (f3.arr (t := 23) (by decide) (by decide))).eq (c2.arr (t := 23) (by decide) (by decide))).eq (f4.arr (t := 23) (by decide) (by decide))
  have r24 : RA M4 (om + 24) rs := c3.eq (f4.arr (t := 24) (by decide) (by decide))
  have x40 : M4 om 40 = nI bs.length := by rw [f4.fld (by decide) (by decide), c2.fld (by decide) (by decide), f3.fld (by decide) (by decide), b2.fld (by decide) (by decide), j_up_s]
  have x42 : M4 om 42 = nI ls.length := by rw [f4.fld (by decide) (by decide), c2.fld (by decide) (by decide), j_up_s]
  have x44 : M4 om 44 = nI rs.length := by rw [hM4, j_up_s]
  obtain ⟨M5, d1, d2, d3, -⟩ := m_aligns hy l39 l41 l45 (by decide) (by decide) (by decide) hxa hxb r22 r23 (mo := mo) (by rw [g4.fld (by decide) (by decide)]; exact hmo)
  have g5 : MF om [10, 11, 12, 22, 23, 24, 25] [22, 38, 40, 42, 44] M M5 := (g4.mono (by simp) (by simp)).trans (d2.mono (by simp) (by simp))
  obtain ⟨M6, p1, p2, p3, -⟩ := m_aligns hy l39 l43 l46 (by decide) (by decide) (by decide) hxa hxc (r22.eq (d2.arr (t := 22) (by decide) (by decide))) (r24.eq (d2.arr (t := 24) (by decide) (by decide))) (mo := mo) (by rw [g5.fld (by decide) (by decide)]; exact hmo)
  have g6 : MF om [10, 11, 12, 22, 23, 24, 25, 26] [22, 38, 40, 42, 44] M M6 := (g5.mono (by simp) (by simp)).trans (p2.mono (by simp) (by simp))
  have h46 : MF om [10, 11, 12, 25, 26] [22] M4 M6 := (d2.mono (by simp) (by simp)).trans (p2.mono (by simp) (by simp))
  obtain ⟨hS, hB⟩ := q_align_ok bs ls (decide (mo = 1))
  obtain ⟨hS2, hB2⟩ := q_align_ok bs rs (decide (mo = 1))
  obtain ⟨P, hP⟩ : ∃ z, z = (q_align bs ls (decide (mo = 1))).1 := ⟨_, rfl⟩
  obtain ⟨Q, hQ⟩ : ∃ z, z = (q_align bs rs (decide (mo = 1))).1 := ⟨_, rfl⟩
  have hMV := q_mgs_MV (w := decide (mo = 1)) (sh := decide (sh ≠ 0)) ⟨hxa, hxb, hxc⟩
  have hmg : q_mgs bs ls rs (decide (mo = 1)) (decide (sh ≠ 0)) = q_merge bs ls rs (decide (sh ≠ 0)) (lk P) (lk Q) := by
    unfold q_mgs
    rw [← hP, ← hQ]
  rw [← hbs, ← hls, ← hrs]
  rw [hmg] at hMV ⊢
  rw [← hP] at hS hB d3
  rw [← hQ] at hS2 hB2 p3
  have f7 : MF om [] [48] M6 (j_up M6 om 48 0) := MF.uf
  have f8 : MF om [] [50] (j_up M6 om 48 0) (j_up (j_up M6 om 48 0) om 50 0) := MF.uf
  have f78 : MF om [] [48, 50] M6 (j_up (j_up M6 om 48 0) om 50 0) := (f7.mono (by simp) (by simp)).trans (f8.mono (by simp) (by simp))
  have h48 : MF om [10, 11, 12, 25, 26] [22, 48, 50] M4 (j_up (j_up M6 om 48 0) om 50 0) := (h46.mono (by simp) (by simp)).trans (f78.mono (by simp) (by simp))
  have hW : MW (j_up (j_up M6 om 48 0) om 50 0) om sh bs ls rs P Q := ⟨by rw [h48.fld (by decide) (by decide), g4.fld (by decide) (by decide)]; exact hsh, by rw [h48.fld (by decide) (by decide)]; exact x40, by rw [h48.fld (by decide) (by decide)]; exact x42, by rw [h48.fld (by decide) (by decide)]; exact x44,
    r22.eq (h48.arr (t := 22) (by decide) (by decide)), r23.eq (h48.arr (t := 23) (by decide) (by decide)), r24.eq (h48.arr (t := 24) (by decide) (by decide)), (d3.eq (p2.arr (t := 25) (by decide) (by decide))).eq (f78.arr (t := 25) (by decide) (by decide)), p3.eq (f78.arr (t := 26) (by decide) (by decide))⟩
  obtain ⟨M7, u1, u2, u3⟩ := m_merge_loop hy hxa hxb hxc (lk_PM hS hB) (lk_PM hS2 hB2) bs.length 0 0 0 0 j_fuel _ [] 0 (by omega) (by unfold j_fuel; omega) MI.zero (fun _ _ _ _ => Nat.zero_le _) (fun _ _ _ _ => Nat.zero_le _) hW
    ⟨by rw [f8.fld (by decide) (by decide), j_up_s]; rfl, fun i hi => absurd hi (Nat.not_lt_zero _), by rw [j_up_s]; rfl, fun t ht => absurd ht (Nat.not_lt_zero _)⟩ (Or.inl ⟨rfl, fun ⟨ds, c, e, _⟩ => absurd e.symm (by simp)⟩)
  have u4 : MK M7 om (q_merge bs ls rs (decide (sh ≠ 0)) (lk P) (lk Q)) := u3
  have f9 : MF om [] [0] M7 (j_up M7 om 0 0) := MF.uf
  have G : MF om [10, 11, 12, 25, 26, 27, 28] [0, 22, 48, 50] M4 (j_up M7 om 0 0) := ((h48.mono (by simp) (by simp)).trans (u2.mono (by simp) (by simp))).trans (f9.mono (by simp) (by simp))
  have u5 := u4.fr f9 (by decide) (by decide) (by decide) (by decide) (by decide)
  refine ⟨j_up M7 om 0 0, ?_, (g4.mono (by simp) (by simp)).trans (G.mono (by simp) (by simp)), j_up_s, ?_, fun _ => ⟨hMV, ?_, ?_, ?_, ?_, ?_, ?_, u5.all⟩⟩
  · unfold s_X10_merge
    rw [if_neg (by rintro (h | h | h); exact m_isRegT ha h; exact m_isRegT hb h; exact m_isRegT hc h), e39, e41, e43, e45, e46]
    dsimp only [lt_]
    rw [a1]
    dsimp only [Option.bind]
    rw [b1]
    dsimp only
    rw [c1]
    dsimp only
    rw [← hM4, x40, x42, d1]
    dsimp only
    rw [d2.fld (k := 40) (by decide) (by decide), d2.fld (k := 44) (by decide) (by decide), x40, x44, p1]
    dsimp only
    rw [nI_0] at u1
    rw [u1]
    dsimp only
    unfold s_X10_done
    dsimp only [lt_]
    rw [u4.2.2.1]
  · rw [G.fld (by decide) (by decide), f4.fld (by decide) (by decide), c2.fld (by decide) (by decide), f3.fld (by decide) (by decide), b2.fld (by decide) (by decide), f2.fld (by decide) (by decide), a2.fld (by decide) (by decide), j_up_s]
    rfl
  · rw [G.fld (by decide) (by decide)]; exact x40
  · rw [G.fld (by decide) (by decide)]; exact x42
  · rw [G.fld (by decide) (by decide)]; exact x44
  · exact r22.eq (G.arr (t := 22) (by decide) (by decide))
  · exact r23.eq (G.arr (t := 23) (by decide) (by decide))
  · exact r24.eq (G.arr (t := 24) (by decide) (by decide))
end MMS

/-! ===== pure: merges; the model's walk ===== -/
def GO (cs : List CK) : Prop := ∃ ds c, cs = ds ++ [c] ∧ c.1 = 0
theorem GO.stab {cs : List CK} {i j k : Nat} : GO (q_stab cs i j k) := by
  rcases l_end cs with e | ⟨ds, c, e⟩
  · subst e
    exact ⟨[], _, rfl, rfl⟩
  · subst e
    by_cases q : c.1 = 0
    · rw [q_stab_0 q]
      exact ⟨ds, _, rfl, rfl⟩
    · rw [q_stab_n q]
      exact ⟨ds ++ [c], _, rfl, rfl⟩
theorem q_stab_nogo {cs : List CK} {i j k : Nat} (h : ¬ GO cs) : q_stab cs i j k = cs ++ [(0, i, i + 1, j, j + 1, k, k + 1)] := by
  rcases l_end cs with e | ⟨ds, c, e⟩
  · subst e
    rfl
  · subst e
    exact q_stab_n (fun q => h ⟨ds, c, rfl, q⟩)
theorem q_reg_nogo {bs ls rs : List Int32} {sh : Bool} {i0 i1 j0 j1 k0 k1 : Nat} {cs : List CK} (hi : i0 ≤ i1) (hj : j0 ≤ j1) (hk : k0 ≤ k1) (hne : ¬ (i0 = i1 ∧ j0 = j1 ∧ k0 = k1)) : ¬ GO (cs ++ q_reg bs ls rs sh i0 i1 j0 j1 k0 k1) := by
  obtain ⟨a1, a2, a3, -⟩ := q_reg_ok (bs := bs) (ls := ls) (rs := rs) (sh := sh) (n := i1) (m := j1) (r := k1) (i0 := i0) (j0 := j0) (k0 := k0) ⟨hi, Nat.le_refl _⟩ ⟨hj, Nat.le_refl _⟩ ⟨hk, Nat.le_refl _⟩
  rintro ⟨ds, c, e, h0⟩
  rcases a3 with ⟨b1, b2⟩ | ⟨es, c', b1, b2⟩
  · exact hne b2
  · have h9 := (a1 c' (by rw [b1]; exact List.mem_append.mpr (Or.inr (List.mem_singleton.mpr rfl)))).2
    rw [b1, ← List.append_assoc] at e
    have := List.singleton_inj.mp (List.append_inj' e rfl).2
    rw [this] at h9
    exact h9 h0
section MMW
variable {Y : JY} {M : JM} {om : Nat} {bs ls rs : List Int32} {cs : List CK} {P Q : List (Nat × Nat)}
theorem m_extend (hy : MdAt Y om) {c : CK} (h : MK M om (cs ++ [c])) (hl : cs.length < 100) (h0 : c.1 = 0) {i j k : Nat} (he : c.2.2.1 = i ∧ c.2.2.2.2.1 = j ∧ c.2.2.2.2.2.2 = k) :
    ∃ M', (lt_ (((7 : Int32) * (M om 48)) - (7 : Int32)) fun vv63 => if j_g (vv63 + (2 : Int32)) (j_ln Y (j_rf Y om 47)) then (if j_g (vv63 + (2 : Int32)) (j_ln Y (j_rf Y om 47)) then (lt_ (j_up M (j_rf Y om 47) (vv63 + (2 : Int32)).toNatClampNeg ((M (j_rf Y om 47) (vv63 + (2 : Int32)).toNatClampNeg) + (1 : Int32))) fun mm67 => if j_g (vv63 + (4 : Int32)) (j_ln Y (j_rf Y om 47)) then (if j_g (vv63 + (4 : Int32)) (j_ln Y (j_rf Y om 47)) then (lt_ (j_up mm67 (j_rf Y om 47) (vv63 + (4 : Int32)).toNatClampNeg ((mm67 (j_rf Y om 47) (vv63 + (4 : Int32)).toNatClampNeg) + (1 : Int32))) fun mm70 => if j_g (vv63 + (6 : Int32)) (j_ln Y (j_rf Y om 47)) then (if j_g (vv63 + (6 : Int32)) (j_ln Y (j_rf Y om 47)) then (lt_ (j_up mm70 (j_rf Y om 47) (vv63 + (6 : Int32)).toNatClampNeg ((mm70 (j_rf Y om 47) (vv63 + (6 : Int32)).toNatClampNeg) + (1 : Int32))) fun mm73 => some mm73) else none) else none) else none) else none) else none) else none) = some M' ∧
      MF om [27, 28] [48, 50] M M' ∧ MK M' om (cs ++ [(0, c.2.1, i + 1, c.2.2.2.1, j + 1, c.2.2.2.2.2.1, k + 1)]) := by
  have e47 : j_rf Y om 47 = om + 27 := (hy (47, 27, 700) (by decide)).1
  have l47 : j_ln Y (om + 27) = 700 := (hy (47, 27, 700) (by decide)).2
  obtain ⟨h1, h2, h3, h4⟩ := h
  obtain ⟨q1, q2, q3⟩ := he
  obtain ⟨m, hm⟩ : ∃ z, z = 7 * cs.length := ⟨_, rfl⟩
  have hlm : (cs.map k_row).length = cs.length := List.length_map _
  have row : ∀ t, t < 7 → M (om + 27) (m + t) = ((k_row c)[t]?).getD (-1) := fun t ht => by
    have e := h2 cs.length (by rw [List.length_map, List.length_append]; simp) t ht
    rw [List.map_append] at e
    have e3 : t_at (cs.map k_row ++ [k_row c]) (cs.map k_row).length t = ((k_row c)[t]?).getD (-1) := t_at_last
    rw [hlm] at e3
    rw [hm, ← e, ← e3]
    rfl
  have g : ∀ k, k < 7 → j_g (nI (m + k)) 700 := fun k hk => j_g_nI (by omega) (by omega)
  have gc : ∀ k, k < 7 → (nI (m + k)).toNatClampNeg = m + k := fun k hk => nI_clamp (by omega)
  have e0 : (7 : Int32) * (M om 48) - (7 : Int32) = nI m := by
    rw [h1, nI_7a, List.length_append, List.length_singleton, show (7 : Int32) = nI 7 from rfl, nI_sb (by omega), hm]
    congr 1
  have r2 : M (om + 27) (m + 2) = nI i := by rw [row 2 (by decide), ← q1]; rfl
  have r4 : M (om + 27) (m + 4) = nI j := by rw [row 4 (by decide), ← q2]; rfl
  have r6 : M (om + 27) (m + 6) = nI k := by rw [row 6 (by decide), ← q3]; rfl
  refine ⟨j_up (j_up (j_up M (om + 27) (m + 2) (nI (i + 1))) (om + 27) (m + 4) (nI (j + 1))) (om + 27) (m + 6) (nI (k + 1)), ?_, ?_, ?_⟩
  · rw [e47, l47, e0]
    dsimp only [lt_]
    rw [show nI m + (2 : Int32) = nI (m + 2) from nI_add _ 2, show nI m + (4 : Int32) = nI (m + 4) from nI_add _ 4, show nI m + (6 : Int32) = nI (m + 6) from nI_add _ 6]
    simp only [if_pos (g 2 (by decide)), if_pos (g 4 (by decide)), if_pos (g 6 (by decide)), gc 2 (by decide), gc 4 (by decide), gc 6 (by decide), r2, nI_1]
    rw [j_up_k (show m + 4 ≠ m + 2 by omega), r4, j_up_k (show m + 6 ≠ m + 4 by omega), j_up_k (show m + 6 ≠ m + 2 by omega), r6, nI_1, nI_1]
  · refine ((MF.ua.trans MF.ua).trans MF.ua).mono ?_ ?_ <;> simp
  · have F : MF om [27] [] M (j_up (j_up (j_up M (om + 27) (m + 2) (nI (i + 1))) (om + 27) (m + 4) (nI (j + 1))) (om + 27) (m + 6) (nI (k + 1))) := (MF.ua.trans MF.ua).trans MF.ua
    refine ⟨?_, ?_, ?_, ?_⟩
    · rw [F.fld (by decide) (by decide), h1, List.length_append, List.length_append]
      rfl
    · rw [List.map_append, show ([(0, c.2.1, i + 1, c.2.2.2.1, j + 1, c.2.2.2.2.2.1, k + 1)] : List CK).map k_row = [k_row (0, c.2.1, i + 1, c.2.2.2.1, j + 1, c.2.2.2.2.2.1, k + 1)] from rfl]
      intro i' hi' j' hj'
      by_cases e : i' < cs.length
      · rw [t_at_app (by rw [hlm]; exact e), j_up_k (by omega), j_up_k (by omega), j_up_k (by omega)]
        have := h2 i' (by rw [List.length_map, List.length_append]; omega) j' hj'
        rw [List.map_append, show [c].map k_row = [k_row c] from rfl, t_at_app (by rw [hlm]; exact e)] at this
        exact this
      · have e2 : i' = cs.length := by
          rw [List.length_append, hlm] at hi'
          simp at hi'
          omega
        have e3 : t_at (cs.map k_row ++ [k_row (0, c.2.1, i + 1, c.2.2.2.1, j + 1, c.2.2.2.2.2.1, k + 1)]) (cs.map k_row).length j' = ((k_row (0, c.2.1, i + 1, c.2.2.2.1, j + 1, c.2.2.2.2.2.1, k + 1))[j']?).getD (-1) := t_at_last
        rw [hlm] at e3
        have e4 : 7 * i' + j' = m + j' := by omega
        rw [e2] at e4 ⊢
        rw [e3, e4]
        have hrow := row j' hj'
        rcases (show j' = 0 ∨ j' = 1 ∨ j' = 2 ∨ j' = 3 ∨ j' = 4 ∨ j' = 5 ∨ j' = 6 by omega) with e | e | e | e | e | e | e
        · subst e
          rw [j_up_k (by omega), j_up_k (by omega), j_up_k (by omega), hrow]
          show nI 0 = nI c.1
          rw [h0]
        · subst e
          rw [j_up_k (by omega), j_up_k (by omega), j_up_k (by omega), hrow]
          rfl
        · subst e
          rw [j_up_k (by omega), j_up_k (by omega), j_up_s]
          rfl
        · subst e
          rw [j_up_k (by omega), j_up_k (by omega), j_up_k (by omega), hrow]
          rfl
        · subst e
          rw [j_up_k (by omega), j_up_s]
          rfl
        · subst e
          rw [j_up_k (by omega), j_up_k (by omega), j_up_k (by omega), hrow]
          rfl
        · subst e
          rw [j_up_s]
          rfl
    · have e9 : k_cr 0 (cs ++ [(0, c.2.1, i + 1, c.2.2.2.1, j + 1, c.2.2.2.2.2.1, k + 1)]) = k_cr 0 (cs ++ [c]) := by
        rw [k_cr_app, k_cr_app, k_cr_c, k_cr_c, if_neg (show ¬ (0 : Nat) = 4 by decide), if_neg (by rw [h0]; decide)]
      rw [F.fld (by decide) (by decide), e9]
      exact h3
    · have e9 : k_cr 0 (cs ++ [(0, c.2.1, i + 1, c.2.2.2.1, j + 1, c.2.2.2.2.2.1, k + 1)]) = k_cr 0 (cs ++ [c]) := by
        rw [k_cr_app, k_cr_app, k_cr_c, k_cr_c, if_neg (show ¬ (0 : Nat) = 4 by decide), if_neg (by rw [h0]; decide)]
      intro t ht
      rw [e9] at ht
      rw [F.arr (t := 28) (by decide) (by decide)]
      exact h4 t ht
/-- what the model's walk needs of the memory -/
def MW (M : JM) (om : Nat) (s : Int32) (bs ls rs : List Int32) (P Q : List (Nat × Nat)) : Prop := M om 4 = s ∧ M om 40 = nI bs.length ∧ M om 42 = nI ls.length ∧ M om 44 = nI rs.length ∧ RA M (om + 22) bs ∧ RA M (om + 23) ls ∧ RA M (om + 24) rs ∧ PT M (om + 25) P ∧ PT M (om + 26) Q
theorem MW.fr {M' : JM} {A F : List Nat} {s : Int32} (h : MW M om s bs ls rs P Q) (hf : MF om A F M M') (h0 : 0 ∉ A) (hA : ∀ t ∈ [22, 23, 24, 25, 26], t ∉ A) (hF : ∀ k ∈ [4, 40, 42, 44], k ∉ F) : MW M' om s bs ls rs P Q := by
  obtain ⟨b1, b2, b3, b4, b5, b6, b7, b8, b9⟩ := h
  have g : ∀ t, t ∈ [22, 23, 24, 25, 26] → M' (om + t) = M (om + t) := fun t ht => hf.arr (hA t ht) (by rintro rfl; simp at ht)
  have f : ∀ k, k ∈ [4, 40, 42, 44] → M' om k = M om k := fun k hk => hf.fld (hF k hk) h0
  exact ⟨by rw [f 4 (by decide)]; exact b1, by rw [f 40 (by decide)]; exact b2, by rw [f 42 (by decide)]; exact b3, by rw [f 44 (by decide)]; exact b4, b5.eq (g 22 (by decide)), b6.eq (g 23 (by decide)), b7.eq (g 24 (by decide)), b8.eq (g 25 (by decide)), b9.eq (g 26 (by decide))⟩
theorem m_region0 (hy : MdAt Y om) {s : Int32} (hW : MW M om s bs ls rs P Q) (hb24 : bs.length ≤ 24) (hx24 : ls.length ≤ 24) (hy24 : rs.length ≤ 24) (hK : MK M om cs) (hl : cs.length ≤ 97) {g : Int32} (hg : (g = 0 ∧ ¬ GO cs) ∨ (g = 1 ∧ GO cs)) {i0 i1 j0 j1 k0 k1 : Nat} (hi : i0 ≤ i1 ∧ i1 ≤ bs.length) (hj : j0 ≤ j1 ∧ j1 ≤ ls.length) (hk : k0 ≤ k1 ∧ k1 ≤ rs.length) :
    ∃ g' M', (if nI i0 < nI i1 ∨ nI j0 < nI j1 ∨ ¬ (nI k1 ≤ nI k0) then ((s_X10_regionComes Y M om (nI i0) (nI i1) (nI j0) (nI j1) (nI k0) (nI k1)).bind fun xx54 => some ((0 : Int32), xx54)) else (some (g, M))) = some (g', M') ∧ MF om [27, 28] [48, 50] M M' ∧ MK M' om (cs ++ q_reg bs ls rs (decide (s ≠ 0)) i0 i1 j0 j1 k0 k1) ∧
      ((g' = 0 ∧ ¬ GO (cs ++ q_reg bs ls rs (decide (s ≠ 0)) i0 i1 j0 j1 k0 k1)) ∨ (g' = 1 ∧ (i0 = i1 ∧ j0 = j1 ∧ k0 = k1) ∧ q_reg bs ls rs (decide (s ≠ 0)) i0 i1 j0 j1 k0 k1 = [] ∧ GO cs)) := by
  obtain ⟨b1, b2, b3, b4, b5, b6, b7, b8, b9⟩ := hW
  have hcond : (nI i0 < nI i1 ∨ nI j0 < nI j1 ∨ ¬ (nI k1 ≤ nI k0)) ↔ ¬ (i0 = i1 ∧ j0 = j1 ∧ k0 = k1) := by
    rw [nI_ltI (by omega) (by omega), nI_ltI (by omega) (by omega), nI_leI (by omega) (by omega)]
    omega
  by_cases q : i0 = i1 ∧ j0 = j1 ∧ k0 = k1
  · rw [if_neg (fun c => hcond.mp c q)]
    have e : q_reg bs ls rs (decide (s ≠ 0)) i0 i1 j0 j1 k0 k1 = [] := by
      unfold q_reg
      rw [if_pos q]
    rw [e, List.append_nil]
    refine ⟨g, M, rfl, MF.refl, hK, ?_⟩
    rcases hg with hg | hg
    · exact Or.inl hg
    · exact Or.inr ⟨hg.1, q, rfl, hg.2⟩
  · rw [if_pos (hcond.mpr q)]
    obtain ⟨M1, a1, a2, a3⟩ := m_regionComes hy hK hl hb24 hx24 hy24 b5 b6 b7 hi hj hk q
    rw [b1] at a3
    rw [a1]
    exact ⟨0, M1, rfl, a2, a3, Or.inl ⟨rfl, q_reg_nogo hi.1 hj.1 hk.1 q⟩⟩
theorem m_merge_loop (hy : MdAt Y om) {s : Int32} (hb24 : bs.length ≤ 24) (hx24 : ls.length ≤ 24) (hy24 : rs.length ≤ 24) (hPl : PM (lk P) bs.length ls.length) (hPr : PM (lk Q) bs.length rs.length) :
    ∀ (d i i0 j0 k0 n : Nat) (M : JM) (cs : List CK) (g : Int32), bs.length = i + d → d + 1 < n → MI bs.length ls.length rs.length cs i i0 j0 k0 → (∀ t j, i ≤ t → lk P t = some j → j0 ≤ j) → (∀ t k, i ≤ t → lk Q t = some k → k0 ≤ k) →
      MW M om s bs ls rs P Q → MK M om cs → ((g = 0 ∧ ¬ GO cs) ∨ (g = 1 ∧ GO cs)) →
      ∃ M', lp_X10_merge_1 Y om n (nI i0) (nI j0) (nI k0) g (nI i) M = some M' ∧ MF om [27, 28] [48, 50] M M' ∧
        MK M' om ((q_mg bs ls rs (decide (s ≠ 0)) (lk P) (lk Q) d i i0 j0 k0 cs).1 ++ q_reg bs ls rs (decide (s ≠ 0)) (q_mg bs ls rs (decide (s ≠ 0)) (lk P) (lk Q) d i i0 j0 k0 cs).2.1 bs.length (q_mg bs ls rs (decide (s ≠ 0)) (lk P) (lk Q) d i i0 j0 k0 cs).2.2.1 ls.length (q_mg bs ls rs (decide (s ≠ 0)) (lk P) (lk Q) d i i0 j0 k0 cs).2.2.2 rs.length) := by
  have e45 : j_rf Y om 45 = om + 25 := (hy (45, 25, 24) (by decide)).1
  have l45 : j_ln Y (om + 25) = 24 := (hy (45, 25, 24) (by decide)).2
  have e46 : j_rf Y om 46 = om + 26 := (hy (46, 26, 24) (by decide)).1
  have l46 : j_ln Y (om + 26) = 24 := (hy (46, 26, 24) (by decide)).2
  have e10 : ¬ (1 : Int32) = 0 := by decide
  intro d
  induction d with
  | zero =>
    intro i i0 j0 k0 n M cs g hi hn hI hj hk hW hK hg
    obtain ⟨n, rfl⟩ : ∃ z, n = z + 1 := ⟨n - 1, by omega⟩
    obtain ⟨n, rfl⟩ : ∃ z, n = z + 1 := ⟨n - 1, by omega⟩
    have hW' := hW
    obtain ⟨b1, b2, b3, b4, b5, b6, b7, b8, b9⟩ := hW
    obtain ⟨m1, m2, m3, m4, m5, m6⟩ := hI
    have ei : i = bs.length := by omega
    obtain ⟨g', M1, a1, a2, a3, -⟩ := m_region0 hy hW' hb24 hx24 hy24 hK (by omega) hg (i0 := i0) (i1 := bs.length) (j0 := j0) (j1 := ls.length) (k0 := k0) (k1 := rs.length) (by omega) (by omega) (by omega)
    refine ⟨M1, ?_, a2, a3⟩
    unfold lp_X10_merge_1
    rw [b2, b3, b4, ei, if_neg (nI_nlt (by omega) (by omega)), if_pos rfl]
    dsimp only [lt_]
    simp only [if_neg e10]
    dsimp only [Option.bind] at a1 ⊢
    rw [a1]
    dsimp only
    unfold lp_X10_merge_1
    rw [a2.fld (by decide) (by decide), b2, nI_1, if_pos (nI_lt (by omega) (by omega))]
  | succ d ih =>
    intro i i0 j0 k0 n M cs g hi hn hI hj hk hW hK hg
    obtain ⟨n, rfl⟩ : ∃ z, n = z + 1 := ⟨n - 1, by omega⟩
    have hW' := hW
    obtain ⟨b1, b2, b3, b4, b5, b6, b7, b8, b9⟩ := hW
    have hgi : j_g (nI i) 24 := j_g_nI (by omega) (by omega)
    have ei : ¬ nI i = nI bs.length := fun c => by
      have := (nI_eq (by omega) (by omega)).mp c
      omega
    have e00 : (0 : Int32) = 0 := rfl
    unfold lp_X10_merge_1 q_mg
    rw [b2, if_neg (nI_nlt (by omega) (by omega)), if_neg ei]
    dsimp only [lt_]
    simp only [if_true, e45, e46, l45, l46, if_pos hgi, nI_clamp (show i < 2 ^ 31 by omega), b8 i (by omega), b9 i (by omega)]
    cases hl : lk P i with
    | none =>
      rw [if_pos (show oI none < (0 : Int32) by decide)]
      dsimp only [Option.bind]
      rw [nI_1]
      exact ih (i + 1) i0 j0 k0 n M cs g (by omega) (by omega) hI.skip (fun t j a b => hj t j (by omega) b) (fun t k a b => hk t k (by omega) b) hW' hK hg
    | some j =>
      have c1 := hPl.1 i j hl
      have ejp : ¬ oI (some j) < (0 : Int32) := nI_pos (by omega)
      rw [if_neg ejp]
      cases hr : lk Q i with
      | none =>
        rw [if_pos (show oI none < (0 : Int32) by decide)]
        dsimp only [Option.bind]
        rw [nI_1]
        exact ih (i + 1) i0 j0 k0 n M cs g (by omega) (by omega) hI.skip (fun t j a b => hj t j (by omega) b) (fun t k a b => hk t k (by omega) b) hW' hK hg
      | some k =>
        have c2 := hPr.1 i k hr
        have ekp : ¬ oI (some k) < (0 : Int32) := nI_pos (by omega)
        have hjj := hj i j (Nat.le_refl _) hl
        have hkk := hk i k (Nat.le_refl _) hr
        rw [if_neg ekp]
        have hI2 := hI.next (bs := bs) (ls := ls) (rs := rs) (sh := decide (s ≠ 0)) hPl hPr (by omega) hl hr hjj hkk
        obtain ⟨m1, m2, m3, m4, m5, m6⟩ := hI
        have ho1 : oI (some j) = nI j := rfl
        have ho2 : oI (some k) = nI k := rfl
        rw [ho1, ho2]
        obtain ⟨g', M1, a1, a2, a3, a4⟩ := m_region0 hy hW' hb24 hx24 hy24 hK (by omega) hg (i0 := i0) (i1 := i) (j0 := j0) (j1 := j) (k0 := k0) (k1 := k) (by omega) (by omega) (by omega)
        have hql := q_reg_len (bs := bs) (ls := ls) (rs := rs) (sh := decide (s ≠ 0)) (i0 := i0) (i1 := i) (j0 := j0) (j1 := j) (k0 := k0) (k1 := k)
        dsimp only [Option.bind] at a1 ⊢
        rw [a1]
        dsimp only
        have fin : ∀ (M2 : JM), MF om [27, 28] [48, 50] M1 M2 → MK M2 om (q_stab (cs ++ q_reg bs ls rs (decide (s ≠ 0)) i0 i j0 j k0 k) i j k) →
            ∃ M', lp_X10_merge_1 Y om n (nI (i + 1)) (nI (j + 1)) (nI (k + 1)) 1 (nI (i + 1)) M2 = some M' ∧ MF om [27, 28] [48, 50] M M' ∧
              MK M' om ((q_mg bs ls rs (decide (s ≠ 0)) (lk P) (lk Q) d (i + 1) (i + 1) (j + 1) (k + 1) (q_stab (cs ++ q_reg bs ls rs (decide (s ≠ 0)) i0 i j0 j k0 k) i j k)).1 ++ q_reg bs ls rs (decide (s ≠ 0)) (q_mg bs ls rs (decide (s ≠ 0)) (lk P) (lk Q) d (i + 1) (i + 1) (j + 1) (k + 1) (q_stab (cs ++ q_reg bs ls rs (decide (s ≠ 0)) i0 i j0 j k0 k) i j k)).2.1 bs.length (q_mg bs ls rs (decide (s ≠ 0)) (lk P) (lk Q) d (i + 1) (i + 1) (j + 1) (k + 1) (q_stab (cs ++ q_reg bs ls rs (decide (s ≠ 0)) i0 i j0 j k0 k) i j k)).2.2.1 ls.length (q_mg bs ls rs (decide (s ≠ 0)) (lk P) (lk Q) d (i + 1) (i + 1) (j + 1) (k + 1) (q_stab (cs ++ q_reg bs ls rs (decide (s ≠ 0)) i0 i j0 j k0 k) i j k)).2.2.2 rs.length) := fun M2 f2 k2 => by
          obtain ⟨M', d1, d2, d3⟩ := ih (i + 1) (i + 1) (j + 1) (k + 1) n M2 _ 1 (by omega) (by omega) hI2 (fun t j' a b => hPl.2 i t j j' (by omega) hl b) (fun t k' a b => hPr.2 i t k k' (by omega) hr b)
            ((hW'.fr a2 (by decide) (by decide) (by decide)).fr f2 (by decide) (by decide) (by decide)) k2 (Or.inr ⟨rfl, GO.stab⟩)
          exact ⟨M', d1, (a2.trans f2).trans d2, d3⟩
        rcases a4 with ⟨g1, g2⟩ | ⟨g1, g2, g3, g4⟩
        · rw [if_pos g1]
          obtain ⟨M2, d1, d2, d3⟩ := m_chunkComes hy a3 (by rw [List.length_append]; omega) (0, i, i + 1, j, j + 1, k, k + 1)
          have d4 : s_X10_chunkComes Y M1 om (0 : Int32) (nI i) (nI (i + 1)) (nI j) (nI (j + 1)) (nI k) (nI (k + 1)) = some M2 := d1
          rw [nI_1, nI_1, nI_1, d4]
          dsimp only
          refine fin M2 d2 ?_
          rw [q_stab_nogo g2]
          exact d3 (show (0 : Nat) < 5 by decide)
        · rw [if_neg (by rw [g1]; exact e10)]
          obtain ⟨ds, c, h5, h6⟩ := g4
          rw [g3, List.append_nil, h5] at a3
          have h7 := m1.2.2 ds c h5
          have hcl : cs.length = ds.length + 1 := by rw [h5, List.length_append, List.length_singleton]
          obtain ⟨M2, d1, d2, d3⟩ := m_extend hy a3 (by omega) h6 (i := i) (j := j) (k := k) (by omega)
          dsimp only [lt_] at d1
          rw [d1]
          dsimp only
          rw [nI_1, nI_1, nI_1]
          refine fin M2 d2 ?_
          rw [g3, List.append_nil, h5, q_stab_0 h6]
          exact d3
end MMW

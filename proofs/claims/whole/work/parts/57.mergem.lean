/-! ===== pure: merges; the model ===== -/
def MK (M : JM) (om : Nat) (cs : List CK) : Prop := M om 48 = nI cs.length ∧ TBm M (om + 27) 7 (cs.map k_row) ∧ M om 50 = nI (k_cr 0 cs).length ∧ ∀ t, t < (k_cr 0 cs).length → M (om + 28) t = -1
theorem MK.fr {M M' : JM} {om : Nat} {A F : List Nat} {cs : List CK} (h : MK M om cs) (hf : MF om A F M M') (h0 : 0 ∉ A) (h1 : 27 ∉ A) (h2 : 28 ∉ A) (h3 : 48 ∉ F) (h4 : 50 ∉ F) : MK M' om cs := by
  obtain ⟨a1, a2, a3, a4⟩ := h
  refine ⟨by rw [hf.fld h3 h0]; exact a1, a2.eq (hf.arr h1 (by decide)), by rw [hf.fld h4 h0]; exact a3, fun t ht => ?_⟩
  rw [hf.arr h2 (by decide)]
  exact a4 t ht
def MGm (M : JM) (om : Nat) (mk : Bool) (bs ls rs : List Int32) (cs : List CK) (cf : Nat → Int32) : Prop :=
  M om 38 = (if mk then 1 else 0) ∧ (mk = true → MV bs ls rs cs cf ∧ M om 40 = nI bs.length ∧ M om 42 = nI ls.length ∧ M om 44 = nI rs.length ∧ RA M (om + 22) bs ∧ RA M (om + 23) ls ∧ RA M (om + 24) rs ∧
    M om 48 = nI cs.length ∧ TBm M (om + 27) 7 (cs.map k_row) ∧ M om 50 = nI (k_cr 0 cs).length ∧ ∀ t r, (k_cr 0 cs)[t]? = some r → M (om + 28) t = cf r)
theorem MGm.fr {M M' : JM} {om : Nat} {A F : List Nat} {mk : Bool} {bs ls rs : List Int32} {cs : List CK} {cf : Nat → Int32} (h : MGm M om mk bs ls rs cs cf) (hf : MF om A F M M')
    (h0 : 0 ∉ A) (hA : ∀ t ∈ [22, 23, 24, 27, 28], t ∉ A) (hF : ∀ k ∈ [38, 40, 42, 44, 48, 50], k ∉ F) : MGm M' om mk bs ls rs cs cf := by
  obtain ⟨a1, a2⟩ := h
  have g : ∀ t, t ∈ [22, 23, 24, 27, 28] → M' (om + t) = M (om + t) := fun t ht => hf.arr (hA t ht) (by rintro rfl; simp at ht)
  have f : ∀ k, k ∈ [38, 40, 42, 44, 48, 50] → M' om k = M om k := fun k hk => hf.fld (hF k hk) h0
  refine ⟨by rw [f 38 (by decide)]; exact a1, fun e => ?_⟩
  obtain ⟨b1, b2, b3, b4, b5, b6, b7, b8, b9, b10, b11⟩ := a2 e
  exact ⟨b1, by rw [f 40 (by decide)]; exact b2, by rw [f 42 (by decide)]; exact b3, by rw [f 44 (by decide)]; exact b4, b5.eq (g 22 (by decide)), b6.eq (g 23 (by decide)), b7.eq (g 24 (by decide)), by rw [f 48 (by decide)]; exact b8, b9.eq (g 27 (by decide)), by rw [f 50 (by decide)]; exact b10, fun t r ht => by rw [g 28 (by decide)]; exact b11 t r ht⟩
theorem nI_7a (c : Nat) : (7 : Int32) * nI c = nI (7 * c) := by rw [show (7 : Int32) = nI 7 from rfl, nI_mul]
section MMG
variable {Y : JY} {M : JM} {om : Nat} {bs ls rs : List Int32} {cs : List CK}
theorem m_chunkComes (hy : MdAt Y om) (h : MK M om cs) (hl : cs.length < 100) (c : CK) :
    ∃ M', s_X10_chunkComes Y M om (nI c.1) (nI c.2.1) (nI c.2.2.1) (nI c.2.2.2.1) (nI c.2.2.2.2.1) (nI c.2.2.2.2.2.1) (nI c.2.2.2.2.2.2) = some M' ∧ MF om [27, 28] [48, 50] M M' ∧ (c.1 < 5 → MK M' om (cs ++ [c])) := by
  have e47 : j_rf Y om 47 = om + 27 := (hy (47, 27, 700) (by decide)).1
  have l47 : j_ln Y (om + 27) = 700 := (hy (47, 27, 700) (by decide)).2
  have e49 : j_rf Y om 49 = om + 28 := (hy (49, 28, 100) (by decide)).1
  have l49 : j_ln Y (om + 28) = 100 := (hy (49, 28, 100) (by decide)).2
  obtain ⟨h1, h2, h3, h4⟩ := h
  have hR := k_cr_len cs 0
  obtain ⟨m, hm⟩ : ∃ z, z = 7 * cs.length := ⟨_, rfl⟩
  have key : ∀ (N : JM) (k j : Nat) (v : Int32), j_up N (om + 27) k v om j = N om j := fun N k j v => congrFun (j_up_o (by omega)) j
  have g : ∀ k, k < 7 → j_g (nI (m + k)) 700 := fun k hk => j_g_nI (by omega) (by omega)
  have gc : ∀ k, k < 7 → (nI (m + k)).toNatClampNeg = m + k := fun k hk => nI_clamp (by omega)
  obtain ⟨M7, hM7⟩ : ∃ z, z = j_up (j_up (j_up (j_up (j_up (j_up (j_up M (om + 27) m (nI c.1)) (om + 27) (m + 1) (nI c.2.1)) (om + 27) (m + 2) (nI c.2.2.1)) (om + 27) (m + 3) (nI c.2.2.2.1)) (om + 27) (m + 4) (nI c.2.2.2.2.1)) (om + 27) (m + 5) (nI c.2.2.2.2.2.1)) (om + 27) (m + 6) (nI c.2.2.2.2.2.2) := ⟨_, rfl⟩
  have F7 : MF om [27] [] M M7 := by
    rw [hM7]
    exact (((((MF.ua.trans MF.ua).trans MF.ua).trans MF.ua).trans MF.ua).trans MF.ua).trans MF.ua
  have e7 : M7 om 48 = nI cs.length := by rw [F7.fld (by decide) (by decide)]; exact h1
  have T7 : TBm M7 (om + 27) 7 ((cs ++ [c]).map k_row) := by
    rw [List.map_append, show [c].map k_row = [k_row c] from rfl]
    intro i hi j hj
    have hlm : (cs.map k_row).length = cs.length := List.length_map _
    by_cases e : i < cs.length
    · rw [t_at_app (by rw [hlm]; exact e)]
      have := h2 i (by rw [hlm]; exact e) j hj
      rw [hM7, j_up_k (by omega), j_up_k (by omega), j_up_k (by omega), j_up_k (by omega), j_up_k (by omega), j_up_k (by omega), j_up_k (by omega)]
      exact this
    · have e2 : i = cs.length := by
        rw [List.length_append, hlm] at hi
        simp at hi
        omega
      have e3 : t_at (cs.map k_row ++ [k_row c]) (cs.map k_row).length j = ((k_row c)[j]?).getD (-1) := t_at_last
      rw [hlm] at e3
      have e4 : 7 * i + j = m + j := by omega
      rw [e2] at e4 ⊢
      show t_at (cs.map k_row ++ [k_row c]) cs.length j = _
      rw [e3, e4]
      rcases (show j = 0 ∨ j = 1 ∨ j = 2 ∨ j = 3 ∨ j = 4 ∨ j = 5 ∨ j = 6 by omega) with e | e | e | e | e | e | e
      · subst e
        rw [hM7, j_up_k (by omega), j_up_k (by omega), j_up_k (by omega), j_up_k (by omega), j_up_k (by omega), j_up_k (by omega)]
        show _ = j_up M (om + 27) m (nI c.1) (om + 27) m
        rw [j_up_s]
        rfl
      · subst e
        rw [hM7, j_up_k (by omega), j_up_k (by omega), j_up_k (by omega), j_up_k (by omega), j_up_k (by omega), j_up_s]
        rfl
      · subst e
        rw [hM7, j_up_k (by omega), j_up_k (by omega), j_up_k (by omega), j_up_k (by omega), j_up_s]
        rfl
      · subst e
        rw [hM7, j_up_k (by omega), j_up_k (by omega), j_up_k (by omega), j_up_s]
        rfl
      · subst e
        rw [hM7, j_up_k (by omega), j_up_k (by omega), j_up_s]
        rfl
      · subst e
        rw [hM7, j_up_k (by omega), j_up_s]
        rfl
      · subst e
        rw [hM7, j_up_s]
        rfl
  have f8 : MF om [] [48] M7 (j_up M7 om 48 (nI (cs.length + 1))) := MF.uf
  have hun : s_X10_chunkComes Y M om (nI c.1) (nI c.2.1) (nI c.2.2.1) (nI c.2.2.2.1) (nI c.2.2.2.2.1) (nI c.2.2.2.2.2.1) (nI c.2.2.2.2.2.2) =
      if nI c.1 = (4 : Int32) then some (j_up (j_up (j_up M7 om 48 (nI (cs.length + 1))) (om + 28) (k_cr 0 cs).length (-1)) om 50 (nI ((k_cr 0 cs).length + 1))) else some (j_up M7 om 48 (nI (cs.length + 1))) := by
    unfold s_X10_chunkComes
    dsimp only [lt_]
    rw [e47, l47, e49, l49, h1, nI_7a, ← hm]
    rw [show nI m + (1 : Int32) = nI (m + 1) from nI_add _ 1, show nI m + (2 : Int32) = nI (m + 2) from nI_add _ 2, show nI m + (3 : Int32) = nI (m + 3) from nI_add _ 3, show nI m + (4 : Int32) = nI (m + 4) from nI_add _ 4, show nI m + (5 : Int32) = nI (m + 5) from nI_add _ 5, show nI m + (6 : Int32) = nI (m + 6) from nI_add _ 6]
    have g0 : j_g (nI m) 700 := g 0 (by decide)
    have gc0 : (nI m).toNatClampNeg = m := gc 0 (by decide)
    simp only [if_pos g0, if_pos (g 1 (by decide)), if_pos (g 2 (by decide)), if_pos (g 3 (by decide)), if_pos (g 4 (by decide)), if_pos (g 5 (by decide)), if_pos (g 6 (by decide)), gc0, gc 1 (by decide), gc 2 (by decide), gc 3 (by decide), gc 4 (by decide), gc 5 (by decide), gc 6 (by decide)]
    rw [← hM7, e7, nI_1]
    have e50 : j_up M7 om 48 (nI (cs.length + 1)) om 50 = nI (k_cr 0 cs).length := by
      rw [f8.fld (by decide) (by decide), F7.fld (by decide) (by decide)]
      exact h3
    have e51 : ∀ (k : Nat) (v : Int32), j_up (j_up M7 om 48 (nI (cs.length + 1))) (om + 28) k v om 50 = nI (k_cr 0 cs).length := fun k v => by
      rw [j_up_o (by omega)]
      exact e50
    rw [e50, e51, if_pos (j_g_nI (by omega) (by omega)), nI_clamp (by omega), nI_1]
  rw [hun]
  have F8 : MF om [27, 28] [48, 50] M (j_up M7 om 48 (nI (cs.length + 1))) := (F7.mono (by simp) (by simp)).trans (f8.mono (by simp) (by simp))
  have hcr : ∀ ds : List CK, k_cr 0 (cs ++ ds) = k_cr 0 cs ++ k_cr cs.length ds := fun ds => by rw [k_cr_app, Nat.zero_add]
  by_cases q : c.1 = 4
  · have f9 : MF om [28] [] (j_up M7 om 48 (nI (cs.length + 1))) (j_up (j_up M7 om 48 (nI (cs.length + 1))) (om + 28) (k_cr 0 cs).length (-1)) := MF.ua
    have f10 : MF om [] [50] (j_up (j_up M7 om 48 (nI (cs.length + 1))) (om + 28) (k_cr 0 cs).length (-1)) (j_up (j_up (j_up M7 om 48 (nI (cs.length + 1))) (om + 28) (k_cr 0 cs).length (-1)) om 50 (nI ((k_cr 0 cs).length + 1))) := MF.uf
    rw [if_pos (by rw [q]; rfl)]
    refine ⟨_, rfl, F8.trans ((f9.mono (by simp) (by simp)).trans (f10.mono (by simp) (by simp))), fun _ => ⟨?_, ?_, ?_, ?_⟩⟩
    · rw [f10.fld (by decide) (by decide), f9.fld (by decide) (by decide), j_up_s, List.length_append, List.length_singleton]
    · exact ((T7.eq (f8.arr (t := 27) (by decide) (by decide))).eq (f9.arr (t := 27) (by decide) (by decide))).eq (f10.arr (t := 27) (by decide) (by decide))
    · rw [j_up_s, hcr, k_cr_c, if_pos q, List.length_append]
      rfl
    · intro t ht
      rw [hcr, k_cr_c, if_pos q, List.length_append] at ht
      have ht2 : t < (k_cr 0 cs).length + 1 := ht
      rw [f10.arr (t := 28) (by decide) (by decide)]
      by_cases e : t = (k_cr 0 cs).length
      · rw [e, j_up_s]
      · rw [j_up_k e, f8.arr (t := 28) (by decide) (by decide), F7.arr (t := 28) (by decide) (by decide)]
        exact h4 t (by omega)
  · by_cases q5 : c.1 < 5
    · have e9 : ¬ nI c.1 = (4 : Int32) := fun e => q ((nI_eq (a := c.1) (b := 4) (by omega) (by omega)).mp e)
      rw [if_neg e9]
      refine ⟨_, rfl, F8, fun _ => ⟨?_, T7.eq (f8.arr (t := 27) (by decide) (by decide)), ?_, ?_⟩⟩
      · rw [j_up_s, List.length_append, List.length_singleton]
      · rw [f8.fld (by decide) (by decide), F7.fld (by decide) (by decide), hcr, k_cr_c, if_neg q]
        show _ = nI (k_cr 0 cs ++ []).length
        rw [List.append_nil]
        exact h3
      · rw [hcr, k_cr_c, if_neg q]
        show ∀ t, t < (k_cr 0 cs ++ []).length → _
        rw [List.append_nil]
        intro t ht
        rw [f8.arr (t := 28) (by decide) (by decide), F7.arr (t := 28) (by decide) (by decide)]
        exact h4 t ht
    · by_cases q6 : nI c.1 = (4 : Int32)
      · rw [if_pos q6]
        have f9 : MF om [28] [] (j_up M7 om 48 (nI (cs.length + 1))) (j_up (j_up M7 om 48 (nI (cs.length + 1))) (om + 28) (k_cr 0 cs).length (-1)) := MF.ua
        have f10 : MF om [] [50] (j_up (j_up M7 om 48 (nI (cs.length + 1))) (om + 28) (k_cr 0 cs).length (-1)) (j_up (j_up (j_up M7 om 48 (nI (cs.length + 1))) (om + 28) (k_cr 0 cs).length (-1)) om 50 (nI ((k_cr 0 cs).length + 1))) := MF.uf
        exact ⟨_, rfl, F8.trans ((f9.mono (by simp) (by simp)).trans (f10.mono (by simp) (by simp))), fun c => absurd c q5⟩
      · rw [if_neg q6]
        exact ⟨_, rfl, F8, fun c => absurd c q5⟩
theorem m_alike {a b n m : Nat} (hla : j_ln Y a = n) (hlb : j_ln Y b = m) (hn : n < 1000) (hm : m < 1000) {xs ys : List Int32} (hxl : xs.length ≤ n) (hyl : ys.length ≤ m) (h1 : RA M a xs) (h2 : RA M b ys) {i0 i1 j0 j1 : Nat} (hi : i0 ≤ i1 ∧ i1 ≤ xs.length) (hj : j0 ≤ j1 ∧ j1 ≤ ys.length) :
    s_X10_alike Y M a (nI i0) (nI i1) b (nI j0) (nI j1) = some (if l_seg xs i0 i1 = l_seg ys j0 j1 then 1 else 0) := by
  have zero : ∀ (k n' : Nat), lp_X10_alike_1 Y (nI i1) (nI i0) a (nI j0) b M (n' + 1) 0 (nI k) = some 0 := by
    intro k n'
    unfold lp_X10_alike_1
    rw [if_pos (Or.inr rfl), if_pos (Or.inl rfl)]
  have e10 : ¬ (1 : Int32) = 0 := by decide
  have loop : ∀ (d k n' : Nat), i1 - i0 = k + d → k + d ≤ j1 - j0 → d < n' → ∃ v, lp_X10_alike_1 Y (nI i1) (nI i0) a (nI j0) b M n' 1 (nI k) = some v ∧ (v = 0 ∨ v = 1) ∧ (v = 1 ↔ ∀ t, k ≤ t → t < i1 - i0 → (xs[i0 + t]?).getD (-1) = (ys[j0 + t]?).getD (-1)) := by
    intro d
    induction d with
    | zero =>
      intro k n' hk hk2 hn'
      obtain ⟨n', rfl⟩ : ∃ z, n' = z + 1 := ⟨n' - 1, by omega⟩
      refine ⟨1, ?_, Or.inr rfl, ⟨fun _ t a b => by omega, fun _ => rfl⟩⟩
      unfold lp_X10_alike_1
      rw [nI_sb hi.1, if_pos (Or.inl (nI_le (by omega) (by omega))), if_pos (Or.inr rfl)]
    | succ d ih =>
      intro k n' hk hk2 hn'
      obtain ⟨n', rfl⟩ : ∃ z, n' = z + 1 := ⟨n' - 1, by omega⟩
      have g1 : j_g (nI (i0 + k)) n := j_g_nI (by omega) (by omega)
      have g2 : j_g (nI (j0 + k)) m := j_g_nI (by omega) (by omega)
      unfold lp_X10_alike_1
      rw [nI_sb hi.1, if_neg (by rintro (c | c); exact nI_ge (by omega) (by omega) c; exact e10 c), nI_add, nI_add, hla, hlb, if_pos g1, if_pos g2, nI_clamp (by omega), nI_clamp (by omega), h1.get' (by omega), h2.get' (by omega)]
      dsimp only [lt_]
      rw [nI_1]
      by_cases q : (xs[i0 + k]?).getD (-1) = (ys[j0 + k]?).getD (-1)
      · rw [if_pos q]
        obtain ⟨v, c1, c2, c3⟩ := ih (k + 1) n' (by omega) (by omega) (by omega)
        refine ⟨v, c1, c2, c3.trans ⟨fun h t a b => ?_, fun h t a b => h t (by omega) b⟩⟩
        by_cases e : t = k
        · rw [e]; exact q
        · exact h t (by omega) b
      · rw [if_neg q]
        obtain ⟨n', rfl⟩ : ∃ z, n' = z + 1 := ⟨n' - 1, by omega⟩
        exact ⟨0, zero _ _, Or.inl rfl, ⟨fun c => absurd c (by decide), fun h => absurd (h k (Nat.le_refl _) (by omega)) q⟩⟩
  unfold s_X10_alike
  rw [nI_sb hi.1, nI_sb hj.1]
  dsimp only [lt_]
  have hfu : j_fuel = 9999 + 1 := rfl
  by_cases q : i1 - i0 = j1 - j0
  · rw [if_pos (by rw [q])]
    obtain ⟨v, c1, c2, c3⟩ := loop (i1 - i0) 0 j_fuel (by omega) (by omega) (j_fuel_gt (by omega))
    rw [nI_0] at c1
    rw [c1]
    dsimp only [Option.bind]
    have hse := l_seg_eq (xs := xs) (ys := ys) (b := i0) (e := i1) (b' := j0) (e' := j1) hi.2 hj.2 q hj.1
    by_cases q2 : l_seg xs i0 i1 = l_seg ys j0 j1
    · rw [if_pos q2, c3.mpr (fun t _ b => hse.mp q2 t b)]
    · rw [if_neg q2]
      rcases c2 with c2 | c2
      · rw [c2]
      · exact absurd (hse.mpr (fun t b => c3.mp c2 t (Nat.zero_le _) b)) q2
  · rw [if_neg (fun c => q ((nI_eq (by omega) (by omega)).mp c)), hfu, show (0 : Int32) = nI 0 from nI_0.symm]
    have z := zero 0 9999
    rw [nI_0] at z ⊢
    rw [z]
    dsimp only [Option.bind]
    rw [if_neg (fun c => by
      have := congrArg List.length c
      rw [l_seg_len hi.2, l_seg_len hj.2] at this
      exact q this)]
theorem m_cc1 (hy : MdAt Y om) (hx24 : ls.length ≤ 24) (hy24 : rs.length ≤ 24) (h1 : RA M (om + 23) ls) (h2 : RA M (om + 24) rs) {j0 j1 k0 k1 : Nat} (hj : j0 ≤ j1 ∧ j1 ≤ ls.length) (hk : k0 ≤ k1 ∧ k1 ≤ rs.length) :
    lp_X10_conflictComes_1 Y M om (nI j1) (nI j0) (nI k1) (nI k0) j_fuel 0 = some (nI (q_head ls rs (decide (M om 4 ≠ 0)) j0 j1 k0 k1)) := by
  have e41 : j_rf Y om 41 = om + 23 := (hy (41, 23, 24) (by decide)).1
  have l41 : j_ln Y (om + 23) = 24 := (hy (41, 23, 24) (by decide)).2
  have e43 : j_rf Y om 43 = om + 24 := (hy (43, 24, 24) (by decide)).1
  have l43 : j_ln Y (om + 24) = 24 := (hy (43, 24, 24) (by decide)).2
  have hfu : j_fuel = 9999 + 1 := rfl
  unfold q_head
  by_cases q : M om 4 = 0
  · rw [decide_eq_false (fun c => c q), if_neg (by decide), hfu]
    unfold lp_X10_conflictComes_1
    rw [q, if_pos (Or.inl (by decide))]
    rfl
  · have hz : ¬ j_z (M om 4) = 0 := by
      unfold j_z
      rw [if_neg q]
      decide
    rw [decide_eq_true q, if_pos rfl]
    have loop : ∀ (d r n : Nat), min (j1 - j0) (k1 - k0) = r + d → d < n → lp_X10_conflictComes_1 Y M om (nI j1) (nI j0) (nI k1) (nI k0) n (nI r) = some (nI (r + q_hd ls rs d (j0 + r) (k0 + r))) := by
      intro d
      induction d with
      | zero =>
        intro r n hr hn
        obtain ⟨n, rfl⟩ : ∃ z, n = z + 1 := ⟨n - 1, by omega⟩
        unfold lp_X10_conflictComes_1
        rw [nI_add, nI_add]
        have e : nI j1 ≤ nI (j0 + r) ∨ nI k1 ≤ nI (k0 + r) := by
          rw [nI_leI (by omega) (by omega), nI_leI (by omega) (by omega)]
          omega
        rw [if_pos (Or.inr e)]
        rfl
      | succ d ih =>
        intro r n hr hn
        obtain ⟨n, rfl⟩ : ∃ z, n = z + 1 := ⟨n - 1, by omega⟩
        unfold lp_X10_conflictComes_1 q_hd
        rw [nI_add, nI_add]
        have e : ¬ (nI j1 ≤ nI (j0 + r) ∨ nI k1 ≤ nI (k0 + r)) := by
          rw [nI_leI (by omega) (by omega), nI_leI (by omega) (by omega)]
          omega
        rw [if_neg (by rintro (c | c); exact hz c; exact e c), e41, e43, l41, l43, if_pos (j_g_nI (by omega) (by omega)), if_pos (j_g_nI (by omega) (by omega)), nI_clamp (by omega), nI_clamp (by omega), h1.get' (by omega), h2.get' (by omega)]
        by_cases q2 : (ls[j0 + r]?).getD (-1) = (rs[k0 + r]?).getD (-1)
        · rw [if_pos q2, if_pos q2]
          dsimp only [lt_]
          rw [nI_1, ih (r + 1) n (by omega) (by omega)]
          congr 2
          rw [show j0 + (r + 1) = j0 + r + 1 by omega, show k0 + (r + 1) = k0 + r + 1 by omega]
          omega
        · rw [if_neg q2, if_neg q2]
          rfl
    have e := loop (min (j1 - j0) (k1 - k0)) 0 j_fuel (by omega) (j_fuel_gt (by omega))
    rw [nI_0, Nat.zero_add] at e
    exact e
theorem m_cc2 (hy : MdAt Y om) (hx24 : ls.length ≤ 24) (hy24 : rs.length ≤ 24) (h1 : RA M (om + 23) ls) (h2 : RA M (om + 24) rs) {h j0 j1 k0 k1 : Nat} (hj : j0 + h ≤ j1 ∧ j1 ≤ ls.length) (hk : k0 + h ≤ k1 ∧ k1 ≤ rs.length) :
    lp_X10_conflictComes_2 Y M om (nI j1) (nI j0) (nI h) (nI k1) (nI k0) j_fuel 0 = some (nI (q_tail ls rs (decide (M om 4 ≠ 0)) (j0 + h) j1 (k0 + h) k1)) := by
  have e41 : j_rf Y om 41 = om + 23 := (hy (41, 23, 24) (by decide)).1
  have l41 : j_ln Y (om + 23) = 24 := (hy (41, 23, 24) (by decide)).2
  have e43 : j_rf Y om 43 = om + 24 := (hy (43, 24, 24) (by decide)).1
  have l43 : j_ln Y (om + 24) = 24 := (hy (43, 24, 24) (by decide)).2
  have hfu : j_fuel = 9999 + 1 := rfl
  unfold q_tail
  by_cases q : M om 4 = 0
  · rw [decide_eq_false (fun c => c q), if_neg (by decide), hfu]
    unfold lp_X10_conflictComes_2
    rw [q, if_pos (Or.inl (by decide))]
    rfl
  · have hz : ¬ j_z (M om 4) = 0 := by
      unfold j_z
      rw [if_neg q]
      decide
    rw [decide_eq_true q, if_pos rfl]
    have loop : ∀ (d r n : Nat), min (j1 - (j0 + h)) (k1 - (k0 + h)) = r + d → d < n → lp_X10_conflictComes_2 Y M om (nI j1) (nI j0) (nI h) (nI k1) (nI k0) n (nI r) = some (nI (r + q_tl ls rs d (j1 - r) (k1 - r))) := by
      intro d
      induction d with
      | zero =>
        intro r n hr hn
        obtain ⟨n, rfl⟩ : ∃ z, n = z + 1 := ⟨n - 1, by omega⟩
        unfold lp_X10_conflictComes_2
        rw [nI_add, nI_add, nI_sb (by omega), nI_sb (by omega)]
        have e : nI (j1 - r) ≤ nI (j0 + h) ∨ nI (k1 - r) ≤ nI (k0 + h) := by
          rw [nI_leI (by omega) (by omega), nI_leI (by omega) (by omega)]
          omega
        rw [if_pos (Or.inr e)]
        rfl
      | succ d ih =>
        intro r n hr hn
        obtain ⟨n, rfl⟩ : ∃ z, n = z + 1 := ⟨n - 1, by omega⟩
        unfold lp_X10_conflictComes_2 q_tl
        rw [nI_add, nI_add, nI_sb (by omega), nI_sb (by omega)]
        have e : ¬ (nI (j1 - r) ≤ nI (j0 + h) ∨ nI (k1 - r) ≤ nI (k0 + h)) := by
          rw [nI_leI (by omega) (by omega), nI_leI (by omega) (by omega)]
          omega
        have p1 : nI (j1 - r) - (1 : Int32) = nI (j1 - r - 1) := by
          rw [show j1 - r = (j1 - r - 1) + 1 by omega, nI_pd]
          rfl
        have p2 : nI (k1 - r) - (1 : Int32) = nI (k1 - r - 1) := by
          rw [show k1 - r = (k1 - r - 1) + 1 by omega, nI_pd]
          rfl
        rw [if_neg (by rintro (c | c); exact hz c; exact e c), e41, e43, l41, l43, p1, p2, if_pos (j_g_nI (by omega) (by omega)), if_pos (j_g_nI (by omega) (by omega)), nI_clamp (by omega), nI_clamp (by omega), h1.get' (by omega), h2.get' (by omega)]
        by_cases q2 : (ls[j1 - r - 1]?).getD (-1) = (rs[k1 - r - 1]?).getD (-1)
        · rw [if_pos q2, if_pos q2]
          dsimp only [lt_]
          rw [nI_1, ih (r + 1) n (by omega) (by omega)]
          congr 2
          rw [show j1 - (r + 1) = j1 - r - 1 by omega, show k1 - (r + 1) = k1 - r - 1 by omega]
          omega
        · rw [if_neg q2, if_neg q2]
          rfl
    have e := loop (min (j1 - (j0 + h)) (k1 - (k0 + h))) 0 j_fuel (by omega) (j_fuel_gt (by omega))
    rw [nI_0, Nat.zero_add] at e
    exact e
theorem q_head_le {sh : Bool} {j0 j1 k0 k1 : Nat} : q_head ls rs sh j0 j1 k0 k1 ≤ min (j1 - j0) (k1 - k0) := by
  unfold q_head
  split
  · exact q_hd_le _ _ _
  · exact Nat.zero_le _
theorem q_tail_le {sh : Bool} {j0 j1 k0 k1 : Nat} : q_tail ls rs sh j0 j1 k0 k1 ≤ min (j1 - j0) (k1 - k0) := by
  unfold q_tail
  split
  · exact q_tl_le _ _ _
  · exact Nat.zero_le _
theorem m_conflictComes (hy : MdAt Y om) (h : MK M om cs) (hl : cs.length ≤ 97) (hx24 : ls.length ≤ 24) (hy24 : rs.length ≤ 24) (h1 : RA M (om + 23) ls) (h2 : RA M (om + 24) rs) {i0 i1 j0 j1 k0 k1 : Nat} (hj : j0 ≤ j1 ∧ j1 ≤ ls.length) (hk : k0 ≤ k1 ∧ k1 ≤ rs.length) :
    ∃ M', s_X10_conflictComes Y M om (nI i0) (nI i1) (nI j0) (nI j1) (nI k0) (nI k1) = some M' ∧ MF om [27, 28] [48, 50] M M' ∧ MK M' om (cs ++ q_conf ls rs (decide (M om 4 ≠ 0)) i0 i1 j0 j1 k0 k1) := by
  have c1 := m_cc1 hy hx24 hy24 h1 h2 hj hk
  obtain ⟨hd, hhd⟩ : ∃ z, z = q_head ls rs (decide (M om 4 ≠ 0)) j0 j1 k0 k1 := ⟨_, rfl⟩
  have b1 := q_head_le (ls := ls) (rs := rs) (sh := decide (M om 4 ≠ 0)) (j0 := j0) (j1 := j1) (k0 := k0) (k1 := k1)
  rw [← hhd] at b1 c1
  have c2 := m_cc2 hy hx24 hy24 h1 h2 (h := hd) (j0 := j0) (j1 := j1) (k0 := k0) (k1 := k1) (by omega) (by omega)
  obtain ⟨tl, htl⟩ : ∃ z, z = q_tail ls rs (decide (M om 4 ≠ 0)) (j0 + hd) j1 (k0 + hd) k1 := ⟨_, rfl⟩
  have b2 := q_tail_le (ls := ls) (rs := rs) (sh := decide (M om 4 ≠ 0)) (j0 := j0 + hd) (j1 := j1) (k0 := k0 + hd) (k1 := k1)
  rw [← htl] at b2 c2
  unfold q_conf
  rw [← hhd, ← htl]
  unfold s_X10_conflictComes
  rw [c1]
  dsimp only [Option.bind]
  rw [c2]
  dsimp only
  rw [nI_add, nI_add, nI_sb (by omega), nI_sb (by omega)]
  have first : ∃ M1, (if nI hd ≤ 0 then (some M) else ((s_X10_chunkComes Y M om (3 : Int32) (nI i0) (nI i0) (nI j0) (nI (j0 + hd)) (nI k0) (nI (k0 + hd))).bind fun xx29 => some xx29)) = some M1 ∧ MF om [27, 28] [48, 50] M M1 ∧ MK M1 om (cs ++ (if hd = 0 then [] else [(3, i0, i0, j0, j0 + hd, k0, k0 + hd)])) := by
    by_cases q : hd = 0
    · rw [q, if_pos (by decide), if_pos rfl, List.append_nil]
      exact ⟨M, rfl, MF.refl, h⟩
    · rw [if_neg (nI_nle (by omega) (by omega)), if_neg q]
      obtain ⟨M1, a1, a2, a3⟩ := m_chunkComes hy h (by omega) (3, i0, i0, j0, j0 + hd, k0, k0 + hd)
      have a4 : s_X10_chunkComes Y M om (3 : Int32) (nI i0) (nI i0) (nI j0) (nI (j0 + hd)) (nI k0) (nI (k0 + hd)) = some M1 := a1
      rw [a4]
      exact ⟨M1, rfl, a2, a3 (show (3 : Nat) < 5 by decide)⟩
  obtain ⟨M1, a1, a2, a3⟩ := first
  dsimp only [Option.bind] at a1
  rw [a1]
  dsimp only
  have hl1 : (cs ++ (if hd = 0 then [] else [(3, i0, i0, j0, j0 + hd, k0, k0 + hd)] : List CK)).length ≤ 98 := by
    rw [List.length_append]
    split <;> simp <;> omega
  obtain ⟨M2, d1, d2, d3⟩ := m_chunkComes hy a3 (by omega) (4, i0, i1, j0 + hd, j1 - tl, k0 + hd, k1 - tl)
  have d4 : s_X10_chunkComes Y M1 om (4 : Int32) (nI i0) (nI i1) (nI (j0 + hd)) (nI (j1 - tl)) (nI (k0 + hd)) (nI (k1 - tl)) = some M2 := d1
  rw [d4]
  dsimp only
  have d5 := d3 (by show 4 < 5; decide)
  rw [List.append_assoc] at d5
  unfold q_cf
  by_cases q : tl = 0
  · rw [if_pos (by rw [q]; decide), if_pos q]
    exact ⟨M2, rfl, a2.trans d2, d5⟩
  · rw [if_neg (nI_nle (by omega) (by omega)), if_neg q]
    obtain ⟨M3, f1, f2, f3⟩ := m_chunkComes hy d5 (by
      rw [← List.append_assoc, List.length_append, List.length_singleton]
      omega) (3, i1, i1, j1 - tl, j1, k1 - tl, k1)
    have f4 : s_X10_chunkComes Y M2 om (3 : Int32) (nI i1) (nI i1) (nI (j1 - tl)) (nI j1) (nI (k1 - tl)) (nI k1) = some M3 := f1
    rw [f4]
    refine ⟨M3, rfl, (a2.trans d2).trans f2, ?_⟩
    have f5 := f3 (by show 3 < 5; decide)
    simp only [List.append_assoc] at f5 ⊢
    exact f5
theorem m_regionComes (hy : MdAt Y om) (h : MK M om cs) (hl : cs.length ≤ 97) (hb24 : bs.length ≤ 24) (hx24 : ls.length ≤ 24) (hy24 : rs.length ≤ 24) (h0 : RA M (om + 22) bs) (h1 : RA M (om + 23) ls) (h2 : RA M (om + 24) rs) {i0 i1 j0 j1 k0 k1 : Nat} (hi : i0 ≤ i1 ∧ i1 ≤ bs.length) (hj : j0 ≤ j1 ∧ j1 ≤ ls.length) (hk : k0 ≤ k1 ∧ k1 ≤ rs.length) (hne : ¬ (i0 = i1 ∧ j0 = j1 ∧ k0 = k1)) :
    ∃ M', s_X10_regionComes Y M om (nI i0) (nI i1) (nI j0) (nI j1) (nI k0) (nI k1) = some M' ∧ MF om [27, 28] [48, 50] M M' ∧ MK M' om (cs ++ q_reg bs ls rs (decide (M om 4 ≠ 0)) i0 i1 j0 j1 k0 k1) := by
  have e39 : j_rf Y om 39 = om + 22 := (hy (39, 22, 24) (by decide)).1
  have l39 : j_ln Y (om + 22) = 24 := (hy (39, 22, 24) (by decide)).2
  have e41 : j_rf Y om 41 = om + 23 := (hy (41, 23, 24) (by decide)).1
  have l41 : j_ln Y (om + 23) = 24 := (hy (41, 23, 24) (by decide)).2
  have e43 : j_rf Y om 43 = om + 24 := (hy (43, 24, 24) (by decide)).1
  have l43 : j_ln Y (om + 24) = 24 := (hy (43, 24, 24) (by decide)).2
  unfold q_reg s_X10_regionComes
  rw [if_neg hne, e39, e41, e43, m_alike l41 l39 (by decide) (by decide) hx24 hb24 h1 h0 hj hi, m_alike l43 l39 (by decide) (by decide) hy24 hb24 h2 h0 hk hi, m_alike l41 l43 (by decide) (by decide) hx24 hy24 h1 h2 hj hk]
  dsimp only [Option.bind]
  unfold q_kind
  by_cases q1 : l_seg ls j0 j1 = l_seg bs i0 i1
  · simp only [if_pos q1]
    rw [if_neg (by decide), if_neg (by decide)]
    obtain ⟨M1, a1, a2, a3⟩ := m_chunkComes hy h (by omega) (2, i0, i1, j0, j1, k0, k1)
    have a4 : s_X10_chunkComes Y M om (2 : Int32) (nI i0) (nI i1) (nI j0) (nI j1) (nI k0) (nI k1) = some M1 := a1
    rw [a4]
    exact ⟨M1, rfl, a2, a3 (show (2 : Nat) < 5 by decide)⟩
  · simp only [if_neg q1]
    rw [if_pos trivial]
    by_cases q2 : l_seg rs k0 k1 = l_seg bs i0 i1
    · simp only [if_pos q2]
      rw [if_neg (by decide), if_neg (by decide)]
      obtain ⟨M1, a1, a2, a3⟩ := m_chunkComes hy h (by omega) (1, i0, i1, j0, j1, k0, k1)
      have a4 : s_X10_chunkComes Y M om (1 : Int32) (nI i0) (nI i1) (nI j0) (nI j1) (nI k0) (nI k1) = some M1 := a1
      rw [a4]
      exact ⟨M1, rfl, a2, a3 (show (1 : Nat) < 5 by decide)⟩
    · simp only [if_neg q2]
      rw [if_pos trivial]
      by_cases q3 : l_seg ls j0 j1 = l_seg rs k0 k1
      · simp only [if_pos q3]
        rw [if_neg (by decide), if_neg (by decide)]
        obtain ⟨M1, a1, a2, a3⟩ := m_chunkComes hy h (by omega) (3, i0, i1, j0, j1, k0, k1)
        have a4 : s_X10_chunkComes Y M om (3 : Int32) (nI i0) (nI i1) (nI j0) (nI j1) (nI k0) (nI k1) = some M1 := a1
        rw [a4]
        exact ⟨M1, rfl, a2, a3 (show (3 : Nat) < 5 by decide)⟩
      · simp only [if_neg q3]
        rw [if_pos trivial, if_pos trivial]
        obtain ⟨M1, a1, a2, a3⟩ := m_conflictComes hy h hl hx24 hy24 h1 h2 (i0 := i0) (i1 := i1) hj hk
        rw [a1]
        exact ⟨M1, rfl, a2, a3⟩
end MMG

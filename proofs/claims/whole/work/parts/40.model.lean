/-! ===== pure: the model's memory; measures ===== -/
def mdl : List (Nat × Nat × Nat) := [(1, 1, 96), (2, 2, 4), (5, 3, 50), (7, 4, 8), (8, 5, 8), (9, 6, 192), (12, 7, 96), (13, 8, 4), (15, 9, 2000), (19, 10, 625), (20, 11, 24), (21, 12, 24), (23, 13, 24), (24, 14, 24), (26, 15, 24), (28, 16, 24), (30, 17, 24), (32, 18, 72), (34, 19, 120), (36, 20, 24), (37, 21, 24), (39, 22, 24), (41, 23, 24), (43, 24, 24), (45, 25, 24), (46, 26, 24), (47, 27, 700), (49, 28, 100), (52, 29, 150), (54, 30, 24), (55, 31, 24), (57, 32, 50), (60, 33, 50)]
def MdAt (Y : JY) (om : Nat) : Prop := ∀ x ∈ mdl, j_rf Y om x.1 = om + x.2.1 ∧ j_ln Y (om + x.2.1) = x.2.2
/-- only these rows and these fields of the model may differ -/
def MF (om : Nat) (A F : List Nat) (M M' : JM) : Prop := ∀ a k, (∀ t ∈ A, a ≠ om + t) → (a = om → k ∉ F) → M' a k = M a k
theorem MF.refl {om : Nat} {A F : List Nat} {M : JM} : MF om A F M M := fun _ _ _ _ => rfl
theorem MF.trans {om : Nat} {A F : List Nat} {M M1 M2 : JM} (h1 : MF om A F M M1) (h2 : MF om A F M1 M2) : MF om A F M M2 := fun a k p q => (h2 a k p q).trans (h1 a k p q)
theorem MF.mono {om : Nat} {A F A' F' : List Nat} {M M' : JM} (h : MF om A F M M') (hA : ∀ t ∈ A, t ∈ A') (hF : ∀ t ∈ F, t ∈ F') : MF om A' F' M M' := fun a k p q => h a k (fun t ht => p t (hA t ht)) (fun e hk => q e (hF k hk))
theorem MF.ua {om t k : Nat} {v : Int32} {M : JM} : MF om [t] [] M (j_up M (om + t) k v) := by
  intro a b p _
  exact congrFun (j_up_o (p t List.mem_cons_self)) b
theorem MF.uf {om k : Nat} {v : Int32} {M : JM} : MF om [] [k] M (j_up M om k v) := by
  intro a b _ q
  by_cases e : a = om
  · subst e
    exact j_up_k (fun e => q rfl (by rw [e]; exact List.mem_cons_self))
  · exact congrFun (j_up_o e) b
theorem MF.arr {om t : Nat} {A F : List Nat} {M M' : JM} (h : MF om A F M M') (ht : t ∉ A) (h0 : t ≠ 0) : M' (om + t) = M (om + t) := by
  funext k
  exact h _ k (fun t' ht' e => ht (by rw [Nat.add_left_cancel e]; exact ht')) (fun e => absurd e (by omega))
theorem MF.fld {om k : Nat} {A F : List Nat} {M M' : JM} (h : MF om A F M M') (hk : k ∉ F) (h0 : 0 ∉ A) : M' om k = M om k := h om k (fun t ht e => h0 (by rw [show (0 : Nat) = t by omega]; exact ht)) (fun _ => hk)
theorem MF.cls {om a : Nat} {A F : List Nat} {M M' : JM} (h : MF om A F M M') (hA : ∀ t ∈ A, t < 34) (ha : a < om ∨ om + 34 ≤ a) : M' a = M a := by
  funext k
  exact h a k (fun t ht e => by have := hA t ht; omega) (fun e => absurd e (by omega))
theorem MF.jfr {om : Nat} {A F : List Nat} {M M' : JM} (h : MF om A F M M') (hA : ∀ t ∈ A, t < 34) : JFr om (om + 34) M M' := fun _ q => h.cls hA q
theorem j_g_nI {i n : Nat} (h : i < n) (hn : i < 2 ^ 31) : j_g (nI i) n := ⟨nI_pos hn, by rw [nI_clamp hn]; exact h⟩
def RA (M : JM) (a : Nat) (xs : List Int32) : Prop := ∀ i, i < xs.length → xs[i]? = some (M a i)
theorem RA.get {M : JM} {a : Nat} {xs : List Int32} (h : RA M a xs) {i : Nat} (hi : i < xs.length) : M a i = xs[i] := by
  have := h i hi
  rw [List.getElem?_eq_getElem hi] at this
  exact (Option.some.inj this).symm
theorem RA.get' {M : JM} {a : Nat} {xs : List Int32} (h : RA M a xs) {i : Nat} (hi : i < xs.length) : M a i = (xs[i]?).getD (-1) := by
  rw [h i hi]
  rfl
theorem RA.eq {M M' : JM} {a : Nat} {xs : List Int32} (h : RA M a xs) (e : M' a = M a) : RA M' a xs := fun i hi => by rw [e]; exact h i hi
section MDS
variable {Y : JY} {M : JM} {om : Nat} {xs ys : List Int32}
theorem p_most {a b : Nat} (ha : a < 2 ^ 31) (hb : b < 2 ^ 31) : s_X10_most Y M (nI a) (nI b) = nI (max a b) := by
  unfold s_X10_most
  by_cases h : a ≤ b
  · rw [if_pos (nI_le h hb), Nat.max_eq_right h]
  · rw [if_neg (nI_ge (by omega) ha), Nat.max_eq_left (by omega)]
theorem p_least {a b : Nat} (ha : a < 2 ^ 31) (hb : b < 2 ^ 31) : s_X10_least Y M (nI a) (nI b) = nI (min a b) := by
  unfold s_X10_least
  by_cases h : b ≤ a
  · rw [if_pos (nI_le h ha), Nat.min_eq_right h]
  · rw [if_neg (nI_ge (by omega) hb), Nat.min_eq_left (by omega)]
theorem nI_25 (i j : Nat) : (25 : Int32) * nI i + nI j = nI (25 * i + j) := by
  rw [show (25 : Int32) = nI 25 from rfl, nI_mul, nI_add]
theorem nI_24 (i j : Nat) : (24 : Int32) * nI i + nI j = nI (24 * i + j) := by
  rw [show (24 : Int32) = nI 24 from rfl, nI_mul, nI_add]
theorem nI_1a (a : Nat) : (1 : Int32) + nI a = nI (a + 1) := by
  rw [show (1 : Int32) = nI 1 from rfl, nI_add, Nat.add_comm]
theorem p_longestOf (hy : MdAt Y om) {i j : Nat} (hi : i ≤ 24) (hj : j ≤ 24) : s_X10_longestOf Y M om (nI i) (nI j) = some (M (om + 10) (25 * i + j)) := by
  have h := hy (19, 10, 625) (by decide)
  unfold s_X10_longestOf
  rw [nI_25, h.1, h.2, if_pos (j_g_nI (by show 25 * i + j < 625; omega) (by omega)), nI_clamp (by omega)]
def QGm (xs ys : List Int32) (i1 j0 j1 : Nat) (M : JM) (om i : Nat) : Prop := ∀ i', i ≤ i' → i' ≤ i1 → ∀ j', j0 ≤ j' → j' ≤ j1 → M (om + 10) (25 * i' + j') = nI (q_L xs ys i1 j1 i' j')
theorem t_inj25 {i j i' j' : Nat} (hj : j ≤ 24) (hj' : j' ≤ 24) (h : 25 * i + j = 25 * i' + j') : i = i' ∧ j = j' := by omega
theorem m_measure2 (hy : MdAt Y om) {ta tb : Nat} (hla : j_ln Y (om + ta) = 24) (hlb : j_ln Y (om + tb) = 24) (hta : ta ≠ 10 ∧ ta ≠ 0) (htb : tb ≠ 10 ∧ tb ≠ 0) {i1 j0 j1 : Nat} (hi1 : i1 ≤ xs.length) (hj1 : j1 ≤ ys.length) (hi24 : i1 ≤ 24) (hj24 : j1 ≤ 24) (hj01 : j0 ≤ j1) {i : Nat} (hi : i ≤ i1) :
    ∀ (k n : Nat) (M : JM), k ≤ j1 - j0 + 1 → k < n → RA M (om + ta) xs → RA M (om + tb) ys → QGm xs ys i1 j0 j1 M om (i + 1) → (∀ j', j0 + k ≤ j' → j' ≤ j1 → M (om + 10) (25 * i + j') = nI (q_L xs ys i1 j1 i j')) →
      ∃ M', lp_X10_measures_2 Y (nI j0) (nI i1) (nI i) (nI j1) om (om + ta) (om + tb) n (nD j0 k) M = some M' ∧ MF om [10] [] M M' ∧ QGm xs ys i1 j0 j1 M' om i := by
  intro k
  have hL := hy (19, 10, 625) (by decide)
  have hL1 : j_rf Y om 19 = om + 10 := hL.1
  have hL2 : j_ln Y (om + 10) = 625 := hL.2
  induction k with
  | zero =>
    intro n M hk hn h1 h2 hg hr
    obtain ⟨n, rfl⟩ : ∃ z, n = z + 1 := ⟨n - 1, by omega⟩
    refine ⟨M, ?_, MF.refl, fun i' a b j' c d => ?_⟩
    · unfold lp_X10_measures_2
      rw [if_pos (nD_lt (by omega))]
    · by_cases e : i' = i
      · rw [e]; exact hr j' (by omega) d
      · exact hg i' (by omega) b j' c d
  | succ k ih =>
    intro n M hk hn h1 h2 hg hr
    obtain ⟨n, rfl⟩ : ∃ z, n = z + 1 := ⟨n - 1, by omega⟩
    have hk2 : j0 + k ≤ j1 := by omega
    have b0 := fun a b => q_L_le (xs := xs) (ys := ys) (i1 := i1) (j1 := j1) (i := a) (j := b) hi1
    obtain ⟨V, hV⟩ : ∃ z, z = q_L xs ys i1 j1 i (j0 + k) := ⟨_, rfl⟩
    have f1 : MF om [10] [] M (j_up M (om + 10) (25 * i + (j0 + k)) (nI V)) := MF.ua
    obtain ⟨M', a1, a2, a3⟩ := ih n (j_up M (om + 10) (25 * i + (j0 + k)) (nI V)) (by omega) (by omega) (h1.eq (f1.arr (by simp; omega) hta.2)) (h2.eq (f1.arr (by simp; omega) htb.2))
      (fun i' a b j' c d => by
        rw [j_up_k (fun e => by have := t_inj25 (by omega) (by omega) e; omega)]
        exact hg i' a b j' c d)
      (fun j' a b => by
        by_cases e : j' = j0 + k
        · rw [e, j_up_s, hV]
        · rw [j_up_k (fun e2 => e (t_inj25 (by omega) (by omega) e2).2)]
          exact hr j' (by omega) b)
    refine ⟨M', ?_, f1.trans a2, a3⟩
    unfold lp_X10_measures_2
    rw [nD_s, if_neg (nI_nlt (by omega) (by omega)), hL1, hL2, hla, hlb]
    have hix : j_g ((25 : Int32) * nI i + nI (j0 + k)) 625 := by rw [nI_25]; exact j_g_nI (by omega) (by omega)
    have hcl : ((25 : Int32) * nI i + nI (j0 + k)).toNatClampNeg = 25 * i + (j0 + k) := by rw [nI_25, nI_clamp (by omega)]
    by_cases e1 : i1 ≤ i ∨ j1 ≤ j0 + k
    · have e2 : nI i1 ≤ nI i ∨ nI j1 ≤ nI (j0 + k) := e1.imp (fun e => nI_le e (by omega)) (fun e => nI_le e (by omega))
      have e3 : V = 0 := by
        rw [hV]
        rcases e1 with e | e
        · exact q_L_i e
        · exact q_L_j e
      rw [if_pos e2]
      dsimp only [Option.bind, lt_]
      rw [if_pos e2]
      dsimp only [Option.bind, lt_]
      rw [if_pos hix, hcl]
      rw [e3] at a1
      exact a1
    · have e2 : ¬ (nI i1 ≤ nI i ∨ nI j1 ≤ nI (j0 + k)) := by
        intro c
        rcases c with c | c
        · exact nI_ge (by omega) (by omega) c
        · exact nI_ge (by omega) (by omega) c
      have hi2 : i < xs.length := by omega
      have hj2 : j0 + k < ys.length := by omega
      have c1 := b0 (i + 1) (j0 + k)
      have c2 := b0 i (j0 + k + 1)
      have c3 := b0 (i + 1) (j0 + k + 1)
      rw [if_neg e2, nI_1, nI_1, p_longestOf hy (by omega) (by omega), p_longestOf hy (by omega) (by omega), p_longestOf hy (by omega) (by omega), hg (i + 1) (Nat.le_refl _) (by omega) (j0 + k) (by omega) (by omega), hr (j0 + k + 1) (by omega) (by omega), hg (i + 1) (Nat.le_refl _) (by omega) (j0 + k + 1) (by omega) (by omega)]
      dsimp only [Option.bind, lt_]
      rw [if_neg e2, if_pos (j_g_nI (by omega) (by omega)), if_pos (j_g_nI (by omega) (by omega)), nI_clamp (by omega), nI_clamp (by omega), h1.get hi2, h2.get hj2, p_most (by omega) (by omega), nI_1a, p_most (by omega) (by omega)]
      have e5 : (if xs[i] = ys[j0 + k] then some (nI (max (max (q_L xs ys i1 j1 (i + 1) (j0 + k)) (q_L xs ys i1 j1 i (j0 + k + 1))) (q_L xs ys i1 j1 (i + 1) (j0 + k + 1) + 1))) else some (nI (max (q_L xs ys i1 j1 (i + 1) (j0 + k)) (q_L xs ys i1 j1 i (j0 + k + 1))))) = some (nI V) := by
        rw [hV]
        by_cases e3 : xs[i] = ys[j0 + k]
        · have d1 := q_L_j1 (xs := xs) (i1 := i1) (i := i + 1) (j := j0 + k) hj1
          have d2 := q_L_i1 (ys := ys) (j1 := j1) (i := i) (j := j0 + k + 1) hi1
          rw [if_pos e3, q_L_eq (i := i) (j := j0 + k) (by omega) (by omega) hi1 hj1 (by rw [List.getElem?_eq_getElem (by omega), List.getElem?_eq_getElem (by omega), e3])]
          congr 2
          omega
        · have e4 : xs[i]? ≠ ys[j0 + k]? := by
            rw [List.getElem?_eq_getElem (by omega), List.getElem?_eq_getElem (by omega)]
            exact fun c => e3 (Option.some.inj c)
          rw [if_neg e3, q_L_ne (i := i) (j := j0 + k) (by omega) (by omega) hi1 hj1 e4]
      rw [e5]
      dsimp only [Option.bind, lt_]
      rw [if_pos hix, hcl]
      exact a1
theorem m_measure1 (hy : MdAt Y om) {ta tb : Nat} (hla : j_ln Y (om + ta) = 24) (hlb : j_ln Y (om + tb) = 24) (hta : ta ≠ 10 ∧ ta ≠ 0) (htb : tb ≠ 10 ∧ tb ≠ 0) {i1 j0 j1 : Nat} (hi1 : i1 ≤ xs.length) (hj1 : j1 ≤ ys.length) (hi24 : i1 ≤ 24) (hj24 : j1 ≤ 24) (hj01 : j0 ≤ j1) {i0 : Nat} (hi01 : i0 ≤ i1) :
    ∀ (k n : Nat) (M : JM), k ≤ i1 - i0 + 1 → k < n → RA M (om + ta) xs → RA M (om + tb) ys → QGm xs ys i1 j0 j1 M om (i0 + k) →
      ∃ M', lp_X10_measures_1 Y (nI i0) (nI j0) (nI i1) (nI j1) om (om + ta) (om + tb) n (nD i0 k) M = some M' ∧ MF om [10] [] M M' ∧ QGm xs ys i1 j0 j1 M' om i0 := by
  intro k
  induction k with
  | zero =>
    intro n M hk hn h1 h2 hg
    obtain ⟨n, rfl⟩ : ∃ z, n = z + 1 := ⟨n - 1, by omega⟩
    refine ⟨M, ?_, MF.refl, hg⟩
    unfold lp_X10_measures_1
    rw [if_pos (nD_lt (by omega))]
  | succ k ih =>
    intro n M hk hn h1 h2 hg
    obtain ⟨n, rfl⟩ : ∃ z, n = z + 1 := ⟨n - 1, by omega⟩
    obtain ⟨M1, a1, a2, a3⟩ := m_measure2 hy hla hlb hta htb hi1 hj1 hi24 hj24 hj01 (show i0 + k ≤ i1 by omega) (j1 - j0 + 1) j_fuel M (Nat.le_refl _) (j_fuel_gt (by omega)) h1 h2 hg (fun j' a b => absurd a (by omega))
    rw [nD_s, show j0 + (j1 - j0) = j1 by omega] at a1
    obtain ⟨M', b1, b2, b3⟩ := ih n M1 (by omega) (by omega) (h1.eq (a2.arr (by simp; omega) hta.2)) (h2.eq (a2.arr (by simp; omega) htb.2)) a3
    refine ⟨M', ?_, a2.trans b2, b3⟩
    unfold lp_X10_measures_1
    rw [nD_s, if_neg (nI_nlt (by omega) (by omega)), a1]
    dsimp only [Option.bind, lt_]
    exact b1
theorem m_measures (hy : MdAt Y om) {ta tb : Nat} (hla : j_ln Y (om + ta) = 24) (hlb : j_ln Y (om + tb) = 24) (hta : ta ≠ 10 ∧ ta ≠ 0) (htb : tb ≠ 10 ∧ tb ≠ 0) {i1 j0 j1 : Nat} (hi1 : i1 ≤ xs.length) (hj1 : j1 ≤ ys.length) (hi24 : i1 ≤ 24) (hj24 : j1 ≤ 24) (hj01 : j0 ≤ j1) {i0 : Nat} (hi01 : i0 ≤ i1) (h1 : RA M (om + ta) xs) (h2 : RA M (om + tb) ys) :
      ∃ M', s_X10_measures Y M om (om + ta) (om + tb) (nI i0) (nI i1) (nI j0) (nI j1) = some M' ∧ MF om [10] [] M M' ∧ QGm xs ys i1 j0 j1 M' om i0 := by
  obtain ⟨M', a1, a2, a3⟩ := m_measure1 hy hla hlb hta htb hi1 hj1 hi24 hj24 hj01 hi01 (i1 - i0 + 1) j_fuel M (Nat.le_refl _) (j_fuel_gt (by omega)) h1 h2 (fun i' a b => absurd a (by omega))
  rw [nD_s, show i0 + (i1 - i0) = i1 by omega] at a1
  refine ⟨M', ?_, a2, a3⟩
  unfold s_X10_measures
  rw [a1]
  rfl
end MDS

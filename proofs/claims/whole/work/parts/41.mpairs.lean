/-! ===== pure: the model's pairs ===== -/
def PT (M : JM) (a : Nat) (P : List (Nat × Nat)) : Prop := ∀ t, t < 24 → M a t = oI (lk P t)
theorem lk_none {P : List (Nat × Nat)} {i : Nat} (h : ∀ p ∈ P, p.1 ≠ i) : lk P i = none := by
  unfold lk
  have h0 : P.find? (fun p => p.1 == i) = none := by
    rw [List.find?_eq_none]
    intro p hp
    simpa using h p hp
  rw [h0]
  rfl
theorem PT.app {M : JM} {a : Nat} {P : List (Nat × Nat)} (h : PT M a P) {i k : Nat} (hp : ∀ p ∈ P, p.1 ≠ i) : PT (j_up M a i (nI k)) a (P ++ [(i, k)]) := by
  intro t ht
  rw [lk_app hp]
  by_cases e : t = i
  · rw [e, j_up_s, f_up_s]
    rfl
  · rw [j_up_k e, f_up_n e]
    exact h t ht
theorem PT.eq {M M' : JM} {a : Nat} {P : List (Nat × Nat)} (h : PT M a P) (e : M' a = M a) : PT M' a P := fun t ht => by rw [e]; exact h t ht
section MPS
variable {Y : JY} {M : JM} {om : Nat} {xs ys : List Int32} {ta tb tp : Nat} {i1 j0 j1 : Nat}
theorem m_pairs2_no (hy : MdAt Y om) (hla : j_ln Y (om + ta) = 24) (hlb : j_ln Y (om + tb) = 24) (hlp : j_ln Y (om + tp) = 24) (hi1 : i1 ≤ xs.length) (hj1 : j1 ≤ ys.length) (hi24 : i1 ≤ 24) (hj24 : j1 ≤ 24) (h1 : RA M (om + ta) xs) (h2 : RA M (om + tb) ys) {i i0 low left : Nat} (hi : i < i1) (h0 : i0 ≤ i) (hg : QGm xs ys i1 j0 j1 M om i0) (hleft : left ≤ 100) :
    ∀ (d j n : Nat), j1 = j + d → d < n → j0 ≤ j → (∀ j', j ≤ j' → j' < j1 → (ys[j']?).getD (-1) = (xs[i]?).getD (-1) → q_L xs ys i1 j1 (i + 1) (j' + 1) + 1 ≠ left) →
      lp_X10_pairs_2 Y (nI j1) (nI i) (om + tp) (om + ta) (om + tb) om n (nI low) (nI left) (nI j) M = some (nI low, nI left, M) := by
  intro d
  induction d with
  | zero =>
    intro j n hj hn hj0 hq
    obtain ⟨n, rfl⟩ : ∃ z, n = z + 1 := ⟨n - 1, by omega⟩
    unfold lp_X10_pairs_2
    rw [if_pos (nI_le (by omega) (by omega))]
  | succ d ih =>
    intro j n hj hn hj0 hq
    obtain ⟨n, rfl⟩ : ∃ z, n = z + 1 := ⟨n - 1, by omega⟩
    have hix : i < xs.length := by omega
    have hjy : j < ys.length := by omega
    have b1 := q_L_le (xs := xs) (ys := ys) (i1 := i1) (j1 := j1) (i := i + 1) (j := j + 1) hi1
    unfold lp_X10_pairs_2
    rw [if_neg (nI_ge (by omega) (by omega)), hla, hlb, hlp, if_pos (j_g_nI (by omega) (by omega))]
    by_cases e1 : ¬ M (om + tp) (nI i).toNatClampNeg = -1 ∨ nI left ≤ 0
    · rw [if_pos e1]
    · rw [if_neg e1, if_pos (j_g_nI (by omega) (by omega)), if_pos (j_g_nI (by omega) (by omega))]
      simp only [nI_clamp (show i < 2 ^ 31 by omega), nI_clamp (show j < 2 ^ 31 by omega)]
      rw [h1.get' hix, h2.get' hjy]
      have e2 : left ≠ 0 := by
        intro e
        apply e1
        right
        rw [e]
        decide
      have ih' := ih (j + 1) n (by omega) (by omega) (by omega) (fun j' a b c => hq j' (by omega) b c)
      by_cases e3 : (xs[i]?).getD (-1) = (ys[j]?).getD (-1)
      · rw [if_pos e3, nI_1, nI_1, p_longestOf hy (by omega) (by omega), hg (i + 1) (by omega) (by omega) (j + 1) (by omega) (by omega)]
        dsimp only [Option.bind]
        have e4 := hq j (Nat.le_refl _) (by omega) e3.symm
        have e5 : nI left - 1 = nI (left - 1) := by
          have := nI_pd (left - 1)
          rw [Nat.sub_add_cancel (by omega)] at this
          exact this
        rw [e5, if_neg (fun c => by have := (nI_eq (by omega) (by omega)).mp c; omega)]
        dsimp only [lt_]
        exact ih'
      · rw [if_neg e3]
        dsimp only [Option.bind, lt_]
        rw [nI_1]
        exact ih'
theorem m_pairs2_yes (hy : MdAt Y om) (hla : j_ln Y (om + ta) = 24) (hlb : j_ln Y (om + tb) = 24) (hlp : j_ln Y (om + tp) = 24) (hi1 : i1 ≤ xs.length) (hj1 : j1 ≤ ys.length) (hi24 : i1 ≤ 24) (hj24 : j1 ≤ 24) (h1 : RA M (om + ta) xs) (h2 : RA M (om + tb) ys) {i i0 low left k : Nat} (hi : i < i1) (h0 : i0 ≤ i) (hg : QGm xs ys i1 j0 j1 M om i0) (hleft : left ≤ 100) (hp : M (om + tp) i = -1) (hk : k < j1) (hkl : q_L xs ys i1 j1 (i + 1) (k + 1) + 1 = left) (hke : (ys[k]?).getD (-1) = (xs[i]?).getD (-1)) :
    ∀ (d j n : Nat), k = j + d → d + 1 < n → j0 ≤ j → (∀ j', j ≤ j' → j' < k → (ys[j']?).getD (-1) ≠ (xs[i]?).getD (-1)) →
      lp_X10_pairs_2 Y (nI j1) (nI i) (om + tp) (om + ta) (om + tb) om n (nI low) (nI left) (nI j) M = some (nI (k + 1), nI (left - 1), j_up M (om + tp) i (nI k)) := by
  intro d
  have e1 : ¬ (¬ M (om + tp) (nI i).toNatClampNeg = -1 ∨ nI left ≤ 0) := by
    rw [nI_clamp (by omega)]
    intro c
    rcases c with c | c
    · exact c hp
    · exact nI_nle (by omega) (by omega) c
  induction d with
  | zero =>
    intro j n hj hn hj0 hq
    obtain ⟨n, rfl⟩ : ∃ z, n = z + 1 := ⟨n - 1, by omega⟩
    obtain ⟨n, rfl⟩ : ∃ z, n = z + 1 := ⟨n - 1, by omega⟩
    obtain rfl : j = k := by omega
    have hix : i < xs.length := by omega
    have hjy : j < ys.length := by omega
    have b1 := q_L_le (xs := xs) (ys := ys) (i1 := i1) (j1 := j1) (i := i + 1) (j := j + 1) hi1
    have e5 : nI left - 1 = nI (left - 1) := by
      have := nI_pd (left - 1)
      rw [Nat.sub_add_cancel (by omega)] at this
      exact this
    have e6 : nI left + -1 = nI (left - 1) := by
      have := nI_dec (left - 1)
      rw [Nat.sub_add_cancel (by omega)] at this
      exact this
    unfold lp_X10_pairs_2
    rw [if_neg (nI_ge hk (by omega)), hla, hlb, hlp, if_pos (j_g_nI (by omega) (by omega)), if_neg e1, if_pos (j_g_nI (by omega) (by omega)), if_pos (j_g_nI (by omega) (by omega))]
    simp only [nI_clamp (show i < 2 ^ 31 by omega), nI_clamp (show j < 2 ^ 31 by omega)]
    rw [h1.get' hix, h2.get' hjy, if_pos hke.symm, nI_1, nI_1, p_longestOf hy (by omega) (by omega), hg (i + 1) (by omega) (by omega) (j + 1) (by omega) (by omega)]
    dsimp only [Option.bind]
    rw [e5, if_pos (by congr 1; omega)]
    dsimp only [lt_]
    rw [e6, if_pos (j_g_nI (by omega) (by omega))]
    dsimp only
    unfold lp_X10_pairs_2
    by_cases e7 : j1 ≤ j + 1
    · rw [if_pos (nI_le e7 (by omega))]
    · rw [if_neg (nI_ge (by omega) (by omega)), hlp, if_pos (j_g_nI (by omega) (by omega)), if_pos]
      left
      rw [nI_clamp (by omega), j_up_s]
      exact nI_m1 (by omega)
  | succ d ih =>
    intro j n hj hn hj0 hq
    obtain ⟨n, rfl⟩ : ∃ z, n = z + 1 := ⟨n - 1, by omega⟩
    have hix : i < xs.length := by omega
    have hjy : j < ys.length := by omega
    unfold lp_X10_pairs_2
    rw [if_neg (nI_ge (by omega) (by omega)), hla, hlb, hlp, if_pos (j_g_nI (by omega) (by omega)), if_neg e1, if_pos (j_g_nI (by omega) (by omega)), if_pos (j_g_nI (by omega) (by omega))]
    simp only [nI_clamp (show i < 2 ^ 31 by omega), nI_clamp (show j < 2 ^ 31 by omega)]
    rw [h1.get' hix, h2.get' hjy, if_neg (fun c => hq j (Nat.le_refl _) (by omega) c.symm)]
    dsimp only [Option.bind, lt_]
    rw [nI_1]
    exact ih (j + 1) n (by omega) (by omega) (by omega) (fun j' a b => hq j' (by omega) b)
theorem m_pairs1 (hy : MdAt Y om) (hla : j_ln Y (om + ta) = 24) (hlb : j_ln Y (om + tb) = 24) (hlp : j_ln Y (om + tp) = 24) (hta : ta ≠ tp ∧ ta ≠ 0) (htb : tb ≠ tp ∧ tb ≠ 0) (htp : tp ≠ 10) (hi1 : i1 ≤ xs.length) (hj1 : j1 ≤ ys.length) (hi24 : i1 ≤ 24) (hj24 : j1 ≤ 24) {i0 : Nat} :
    ∀ (d i low n : Nat) (M : JM) (P : List (Nat × Nat)), i1 = i + d → d < n → i0 ≤ i → j0 ≤ low → low ≤ j1 → RA M (om + ta) xs → RA M (om + tb) ys → QGm xs ys i1 j0 j1 M om i0 → PT M (om + tp) P → PB P i low →
      ∃ M', lp_X10_pairs_1 Y (nI i1) (nI j1) (om + tp) (om + ta) (om + tb) om n (nI low) (nI (q_L xs ys i1 j1 i low)) (nI i) M = some M' ∧ MF om [tp] [] M M' ∧ PT M' (om + tp) (P ++ q_pairs xs ys i1 j1 d i low) := by
  intro d
  induction d with
  | zero =>
    intro i low n M P hi hn h0 hl0 hl1 h1 h2 hg hP hB
    obtain ⟨n, rfl⟩ : ∃ z, n = z + 1 := ⟨n - 1, by omega⟩
    refine ⟨M, ?_, MF.refl, by simpa [q_pairs] using hP⟩
    unfold lp_X10_pairs_1
    rw [if_pos (nI_le (by omega) (by omega))]
  | succ d ih =>
    intro i low n M P hi hn h0 hl0 hl1 h1 h2 hg hP hB
    obtain ⟨n, rfl⟩ : ∃ z, n = z + 1 := ⟨n - 1, by omega⟩
    have hii : i < i1 := by omega
    have bL := q_L_le (xs := xs) (ys := ys) (i1 := i1) (j1 := j1) (i := i) (j := low) hi1
    unfold lp_X10_pairs_1 q_pairs
    rw [if_neg (nI_ge (by omega) (by omega))]
    have hskip : (∀ j', low ≤ j' → j' < j1 → (ys[j']?).getD (-1) = (xs[i]?).getD (-1) → q_L xs ys i1 j1 (i + 1) (j' + 1) + 1 ≠ q_L xs ys i1 j1 i low) → q_L xs ys i1 j1 i low = q_L xs ys i1 j1 (i + 1) low →
        ∃ M', ((lp_X10_pairs_2 Y (nI j1) (nI i) (om + tp) (om + ta) (om + tb) om j_fuel (nI low) (nI (q_L xs ys i1 j1 i low)) (nI low) M).bind fun xx38 => lt_ (nI i + (1 : Int32)) fun vv37 => lp_X10_pairs_1 Y (nI i1) (nI j1) (om + tp) (om + ta) (om + tb) om n xx38.1 xx38.2.1 vv37 xx38.2.2) = some M' ∧ MF om [tp] [] M M' ∧ PT M' (om + tp) (P ++ q_pairs xs ys i1 j1 d (i + 1) low) := by
      intro g1 g2
      obtain ⟨M', a1, a2, a3⟩ := ih (i + 1) low n M P (by omega) (by omega) (by omega) hl0 hl1 h1 h2 hg hP (hB.mono (by omega) (Nat.le_refl _))
      refine ⟨M', ?_, a2, a3⟩
      rw [m_pairs2_no hy hla hlb hlp hi1 hj1 hi24 hj24 h1 h2 hii h0 hg (by omega) (j1 - low) low j_fuel (by omega) (j_fuel_gt (by omega)) hl0 g1]
      dsimp only [Option.bind, lt_]
      rw [nI_1, g2]
      exact a1
    cases hf : l_find ys ((xs[i]?).getD (-1)) low (j1 - low) with
    | none =>
      dsimp only
      exact hskip (fun j' a b c => absurd c (l_find_none hf j' a (by omega))) (q_none hii hi1 hj1 (j1 - low) low (by omega) hf)
    | some k =>
      dsimp only
      have hk := l_find_lt hf
      have hs := q_some hii hi1 hj1 (j1 - low) low k (by omega) hf
      by_cases q : q_L xs ys i1 j1 (i + 1) (k + 1) + 1 = q_L xs ys i1 j1 i low
      · rw [if_pos q]
        have hne : ∀ p ∈ P, p.1 ≠ i := fun p hp => by
          have := hB p hp
          omega
        have hpi : M (om + tp) i = -1 := by
          rw [hP i (by omega), lk_none hne]
          rfl
        have f1 : MF om [tp] [] M (j_up M (om + tp) i (nI k)) := MF.ua
        have hg2 : QGm xs ys i1 j0 j1 (j_up M (om + tp) i (nI k)) om i0 := fun i' a b j' c e => by
          rw [j_up_o (by omega)]
          exact hg i' a b j' c e
        obtain ⟨M', a1, a2, a3⟩ := ih (i + 1) (k + 1) n _ (P ++ [(i, k)]) (by omega) (by omega) (by omega) (by omega) (by omega) (h1.eq (f1.arr (by simp; exact hta.1) hta.2)) (h2.eq (f1.arr (by simp; exact htb.1) htb.2)) hg2 (hP.app hne)
          ((hB.mono (by omega) (by omega)).app (fun p hp => by rw [List.mem_singleton.mp hp]; exact ⟨Nat.lt_succ_self _, Nat.lt_succ_self _⟩))
        refine ⟨M', ?_, f1.trans a2, ?_⟩
        · rw [m_pairs2_yes hy hla hlb hlp hi1 hj1 hi24 hj24 h1 h2 hii h0 hg (by omega) hpi (by omega) q (l_find_at hf) (k - low) low j_fuel (by omega) (by unfold j_fuel; omega) hl0 (l_find_first hf)]
          dsimp only [Option.bind, lt_]
          rw [nI_1, show q_L xs ys i1 j1 i low - 1 = q_L xs ys i1 j1 (i + 1) (k + 1) by omega]
          exact a1
        · rw [List.append_assoc] at a3
          exact a3
      · rw [if_neg q]
        refine hskip (fun j' a b c => ?_) (by omega)
        have hkj : k ≤ j' := by
          apply Nat.le_of_not_lt
          intro e
          exact l_find_first hf j' a e c
        have := q_L_mjk (xs := xs) (i1 := i1) (i := i + 1) (j := k + 1) hj1 (j' - k)
        rw [show k + 1 + (j' - k) = j' + 1 by omega] at this
        omega
theorem m_pairs (hy : MdAt Y om) (hla : j_ln Y (om + ta) = 24) (hlb : j_ln Y (om + tb) = 24) (hlp : j_ln Y (om + tp) = 24) (hta : ta ≠ tp ∧ ta ≠ 0 ∧ ta ≠ 10) (htb : tb ≠ tp ∧ tb ≠ 0 ∧ tb ≠ 10) (htp : tp ≠ 10 ∧ tp ≠ 0) (hi1 : i1 ≤ xs.length) (hj1 : j1 ≤ ys.length) (hi24 : i1 ≤ 24) (hj24 : j1 ≤ 24) {i0 : Nat} (hi01 : i0 ≤ i1) (hj01 : j0 ≤ j1)
    {P : List (Nat × Nat)} (h1 : RA M (om + ta) xs) (h2 : RA M (om + tb) ys) (hP : PT M (om + tp) P) (hB : PB P i0 j0) :
      ∃ M', s_X10_pairs Y M om (om + ta) (om + tb) (nI i0) (nI i1) (nI j0) (nI j1) (om + tp) = some M' ∧ MF om [10, tp] [] M M' ∧ PT M' (om + tp) (P ++ q_pairs xs ys i1 j1 (i1 - i0) i0 j0) := by
  obtain ⟨M1, a1, a2, a3⟩ := m_measures hy hla hlb ⟨hta.2.2, hta.2.1⟩ ⟨htb.2.2, htb.2.1⟩ hi1 hj1 hi24 hj24 hj01 hi01 h1 h2
  obtain ⟨M', b1, b2, b3⟩ := m_pairs1 hy hla hlb hlp ⟨hta.1, hta.2.1⟩ ⟨htb.1, htb.2.1⟩ htp.1 hi1 hj1 hi24 hj24 (i1 - i0) i0 j0 j_fuel M1 P (by omega) (j_fuel_gt (by omega)) (Nat.le_refl _) (Nat.le_refl _) hj01 (h1.eq (a2.arr (by simp; exact hta.2.2) hta.2.1)) (h2.eq (a2.arr (by simp; exact htb.2.2) htb.2.1)) a3 (hP.eq (a2.arr (by simp; exact htp.1) htp.2)) hB
  refine ⟨M', ?_, (a2.mono (by simp) (by simp)).trans (b2.mono (by simp) (by simp)), b3⟩
  unfold s_X10_pairs
  rw [a1]
  dsimp only [Option.bind]
  rw [p_longestOf hy (by omega) (by omega), a3 i0 (Nat.le_refl _) hi01 j0 (Nat.le_refl _) hj01]
  dsimp only
  rw [b1]
end MPS

/-! ===== pure: the model's aligns, takes ===== -/
section MAS
variable {Y : JY} {M : JM} {om : Nat} {xs ys : List Int32} {ta tb tp : Nat}
theorem m_aligns1 (hlp : j_ln Y (om + tp) = 24) : ∀ (k i n : Nat) (M : JM), 24 = i + k → k < n → (∀ t, t < i → M (om + tp) t = -1) →
      ∃ M', lp_X10_aligns_1 Y (om + tp) n (nI i) M = some M' ∧ MF om [tp] [] M M' ∧ PT M' (om + tp) [] := by
  intro k
  induction k with
  | zero =>
    intro i n M hi hn hm
    obtain ⟨n, rfl⟩ : ∃ z, n = z + 1 := ⟨n - 1, by omega⟩
    refine ⟨M, ?_, MF.refl, fun t ht => hm t (by omega)⟩
    unfold lp_X10_aligns_1
    have e : (24 : Int32) ≤ nI i := nI_le (a := 24) (by omega) (by omega)
    rw [if_pos e]
  | succ k ih =>
    intro i n M hi hn hm
    obtain ⟨n, rfl⟩ : ∃ z, n = z + 1 := ⟨n - 1, by omega⟩
    obtain ⟨M', a1, a2, a3⟩ := ih (i + 1) n (j_up M (om + tp) i (-1)) (by omega) (by omega) (fun t ht => by
      by_cases e : t = i
      · rw [e, j_up_s]
      · rw [j_up_k e]
        exact hm t (by omega))
    refine ⟨M', ?_, MF.ua.trans a2, a3⟩
    unfold lp_X10_aligns_1
    have e : ¬ (24 : Int32) ≤ nI i := nI_ge (b := 24) (by omega) (by decide)
    rw [if_neg e, hlp, if_pos (j_g_nI (by omega) (by omega))]
    simp only [nI_clamp (show i < 2 ^ 31 by omega)]
    dsimp only [lt_]
    rw [nI_1]
    exact a1
theorem m_aligns2 (hy : MdAt Y om) {c : Nat → Option Nat} {h : Nat → Nat} {n : Nat} (hn : n ≤ 24) (hh9 : ∀ k, h k ≤ 100) (hC : CT M om c h n 0) : ∀ (d k n' acc : Nat), n = k + d → d < n' → acc ≤ 100 → lp_X10_aligns_2 Y (nI n) om M n' (nI acc) (nI k) = some (nI (max acc (mxr h k d))) := by
  have hK := hy (21, 12, 24) (by decide)
  have hK1 : j_rf Y om 21 = om + 12 := hK.1
  have hK2 : j_ln Y (om + 12) = 24 := hK.2
  intro d
  induction d with
  | zero =>
    intro k n' acc hk hn' ha
    obtain ⟨n', rfl⟩ : ∃ z, n' = z + 1 := ⟨n' - 1, by omega⟩
    unfold lp_X10_aligns_2 mxr
    rw [if_pos (nI_le (by omega) (by omega)), Nat.max_eq_left (Nat.zero_le _)]
  | succ d ih =>
    intro k n' acc hk hn' ha
    obtain ⟨n', rfl⟩ : ∃ z, n' = z + 1 := ⟨n' - 1, by omega⟩
    have h9 := hh9 k
    unfold lp_X10_aligns_2 mxr
    rw [if_neg (nI_ge (by omega) (by omega)), hK1, hK2, if_pos (j_g_nI (by omega) (by omega))]
    simp only [nI_clamp (show k < 2 ^ 31 by omega)]
    rw [(hC k (Nat.zero_le _) (by omega)).2, p_most (by omega) (by omega)]
    dsimp only [lt_]
    rw [nI_1, ih (k + 1) n' _ (by omega) (by omega) (by omega), Nat.max_assoc]
theorem m_aligns3 (hy : MdAt Y om) (hla : j_ln Y (om + ta) = 24) (hlb : j_ln Y (om + tb) = 24) (hlp : j_ln Y (om + tp) = 24) (hta : ta ≠ tp ∧ ta ≠ 0 ∧ ta ≠ 10) (htb : tb ≠ tp ∧ tb ≠ 0 ∧ tb ≠ 10) (htp : tp ≠ 10 ∧ tp ≠ 0 ∧ tp ≠ 11 ∧ tp ≠ 12) (hx24 : xs.length ≤ 24) (hy24 : ys.length ≤ 24) {c : Nat → Option Nat} {h : Nat → Nat} (hc9 : ∀ i j, c i = some j → j < ys.length) (hh9 : ∀ k, h k ≤ 100) :
    ∀ (d i n' left a0 b0 : Nat) (M : JM) (P : List (Nat × Nat)) (anc : Nat), xs.length = i + d → d < n' → left ≤ 100 → a0 ≤ i → b0 ≤ ys.length → PT M (om + tp) P → M om 22 = nI anc → PB P a0 b0 → RA M (om + ta) xs → RA M (om + tb) ys → CT M om c h xs.length 0 →
      ∃ M', lp_X10_aligns_3 Y (nI xs.length) om (om + ta) (om + tb) (om + tp) n' (nI a0) (nI b0) (nI left) (nI i) M = some (nI (q_anch xs ys c h d i left a0 b0 P anc).2.2.1, nI (q_anch xs ys c h d i left a0 b0 P anc).2.2.2, M') ∧ MF om [10, tp] [22] M M' ∧
        PT M' (om + tp) (q_anch xs ys c h d i left a0 b0 P anc).1 ∧ M' om 22 = nI (q_anch xs ys c h d i left a0 b0 P anc).2.1 ∧ PB (q_anch xs ys c h d i left a0 b0 P anc).1 (q_anch xs ys c h d i left a0 b0 P anc).2.2.1 (q_anch xs ys c h d i left a0 b0 P anc).2.2.2 ∧
        (q_anch xs ys c h d i left a0 b0 P anc).2.2.1 ≤ xs.length ∧ (q_anch xs ys c h d i left a0 b0 P anc).2.2.2 ≤ ys.length := by
  have hL := hy (20, 11, 24) (by decide)
  have hL1 : j_rf Y om 20 = om + 11 := hL.1
  have hL2 : j_ln Y (om + 11) = 24 := hL.2
  have hK := hy (21, 12, 24) (by decide)
  have hK1 : j_rf Y om 21 = om + 12 := hK.1
  have hK2 : j_ln Y (om + 12) = 24 := hK.2
  intro d
  induction d with
  | zero =>
    intro i n' left a0 b0 M P anc hi hn hl ha hb hP hA hB h1 h2 hC
    obtain ⟨n', rfl⟩ : ∃ z, n' = z + 1 := ⟨n' - 1, by omega⟩
    refine ⟨M, ?_, MF.refl, hP, hA, hB, ?_, hb⟩
    · unfold lp_X10_aligns_3
      rw [if_pos (nI_le (by omega) (by omega))]
      rfl
    · show a0 ≤ _
      omega
  | succ d ih =>
    intro i n' left a0 b0 M P anc hi hn hl ha hb hP hA hB h1 h2 hC
    obtain ⟨n', rfl⟩ : ∃ z, n' = z + 1 := ⟨n' - 1, by omega⟩
    have hCi := hC i (Nat.zero_le _) (by omega)
    have hhi := hh9 i
    have hgi : j_g (nI i) 24 := j_g_nI (by omega) (by omega)
    unfold lp_X10_aligns_3
    rw [if_neg (nI_ge (by omega) (by omega)), hL1, hL2, hK1, hK2, hlp]
    simp only [nI_clamp (show i < 2 ^ 31 by omega), if_pos hgi]
    rw [hCi.1, hCi.2]
    unfold q_anch
    have hskip : ((some (nI a0, nI b0, nI left, M) : Option (Int32 × Int32 × Int32 × JM)).bind fun xx52 => lt_ (nI i + (1 : Int32)) fun vv51 => lp_X10_aligns_3 Y (nI xs.length) om (om + ta) (om + tb) (om + tp) n' xx52.1 xx52.2.1 xx52.2.2.1 vv51 xx52.2.2.2) = lp_X10_aligns_3 Y (nI xs.length) om (om + ta) (om + tb) (om + tp) n' (nI a0) (nI b0) (nI left) (nI (i + 1)) M := by
      dsimp only [Option.bind, lt_]
      rw [nI_1]
    have ihs := ih (i + 1) n' left a0 b0 M P anc (by omega) (by omega) hl (by omega) hb hP hA hB h1 h2 hC
    cases hci : c i with
    | none =>
      dsimp only
      have e : oI none < nI b0 := by
        show (-1 : Int32) < nI b0
        rw [Int32.lt_iff_toInt_lt, nI_toInt (by omega)]
        have e : (-1 : Int32).toInt = -1 := by decide
        rw [e]
        omega
      rw [if_pos e]
      by_cases q1 : nI left ≤ 0
      · rw [if_pos q1, hskip]
        exact ihs
      · rw [if_neg q1]
        by_cases q2 : nI (h i) = nI left
        · rw [if_pos q2, hskip]
          exact ihs
        · rw [if_neg q2, hskip]
          exact ihs
    | some j =>
      have hj := hc9 i j hci
      have e : oI (some j) = nI j := rfl
      rw [e]
      dsimp only
      by_cases q : 0 < left ∧ b0 ≤ j ∧ h i = left
      · obtain ⟨qa, qb, qc⟩ := q
        have e1 : ¬ nI left ≤ 0 := nI_nle qa (by omega)
        obtain ⟨M1, a1, a2, a3⟩ := m_pairs (i1 := i) (j1 := j) hy hla hlb hlp hta htb ⟨htp.1, htp.2.1⟩ (by omega) (by omega) (by omega) (by omega) ha qb h1 h2 hP hB
        have hB1 := q_pairs_PB (xs := xs) (ys := ys) hB ha qb
        have m11 : M1 (om + 11) = M (om + 11) := a2.arr (by simp; exact Ne.symm htp.2.2.1) (by decide)
        have m12 : M1 (om + 12) = M (om + 12) := a2.arr (by simp; exact Ne.symm htp.2.2.2) (by decide)
        have m22 : M1 om 22 = nI anc := by
          rw [a2.fld (by simp) (by simp; exact Ne.symm htp.2.1)]
          exact hA
        have hne : ∀ p ∈ P ++ q_pairs xs ys i j (i - a0) a0 b0, p.1 ≠ i := fun p hp => by
          have := hB1 p hp
          omega
        obtain ⟨N1, hN1⟩ : ∃ z, z = j_up M1 (om + tp) i (nI j) := ⟨_, rfl⟩
        obtain ⟨N2, hN2⟩ : ∃ z, z = j_up N1 om 22 (nI (anc + 1)) := ⟨_, rfl⟩
        have g1 : MF om [10, tp] [22] M1 N1 := by rw [hN1]; exact MF.ua.mono (by simp) (by simp)
        have g2 : MF om [10, tp] [22] N1 N2 := by rw [hN2]; exact MF.uf.mono (by simp) (by simp)
        have g := ((a2.mono (A' := [10, tp]) (F' := [22]) (by simp) (by simp)).trans g1).trans g2
        have n11 : N1 (om + 11) = M (om + 11) := by
          rw [hN1, j_up_o (by omega)]
          exact m11
        have e22 : N1 om 22 = nI anc := by
          rw [hN1, congrFun (j_up_o (by omega)) 22]
          exact m22
        have hP1 : PT N1 (om + tp) (P ++ q_pairs xs ys i j (i - a0) a0 b0 ++ [(i, j)]) := by
          rw [hN1]
          exact a3.app hne
        have hP2 : PT N2 (om + tp) (P ++ q_pairs xs ys i j (i - a0) a0 b0 ++ [(i, j)]) := hP1.eq (by rw [hN2]; exact j_up_o (by omega))
        have hB2 : PB (P ++ q_pairs xs ys i j (i - a0) a0 b0 ++ [(i, j)]) (i + 1) (j + 1) := (hB1.mono (by omega) (by omega)).app (fun p hp => by rw [List.mem_singleton.mp hp]; exact ⟨Nat.lt_succ_self _, Nat.lt_succ_self _⟩)
        have hC2 : CT N2 om c h xs.length 0 := fun t ht1 ht2 => by
          rw [g.arr (t := 11) (by simp; exact Ne.symm htp.2.2.1) (by decide), g.arr (t := 12) (by simp; exact Ne.symm htp.2.2.2) (by decide)]
          exact hC t ht1 ht2
        obtain ⟨M', b1, b2, b3⟩ := ih (i + 1) n' (left - 1) (i + 1) (j + 1) N2 _ (anc + 1) (by omega) (by omega) (by omega) (Nat.le_refl _) hj hP2 (by rw [hN2, j_up_s]) hB2 (h1.eq (g.arr (t := ta) (by simp; exact ⟨hta.2.2, hta.1⟩) hta.2.1)) (h2.eq (g.arr (t := tb) (by simp; exact ⟨htb.2.2, htb.1⟩) htb.2.1)) hC2
        refine ⟨M', ?_, g.trans b2, ?_⟩
        · rw [if_neg e1, if_pos (by rw [qc]), if_neg (nI_nlt qb (by omega)), a1, if_pos ⟨qa, qb, qc⟩]
          dsimp only [Option.bind, lt_]
          have c11 : M1 (om + 11) i = nI j := by rw [m11, hCi.1, hci]; rfl
          have d11 : j_up M1 (om + tp) i (nI j) (om + 11) i = nI j := by rw [← hN1, n11, hCi.1, hci]; rfl
          have d22 : j_up M1 (om + tp) i (nI j) om 22 = nI anc := by rw [← hN1]; exact e22
          rw [c11, d11, d22, nI_1, nI_1, nI_1, ← hN1, ← hN2]
          have e5 : nI left + -1 = nI (left - 1) := by
            have := nI_dec (left - 1)
            rw [Nat.sub_add_cancel qa] at this
            exact this
          rw [e5]
          exact b1
        · rw [if_pos ⟨qa, qb, qc⟩]
          exact b3
      · rw [if_neg q]
        by_cases q1 : nI left ≤ 0
        · rw [if_pos q1, hskip]
          exact ihs
        · have q1' : 0 < left := by
            apply Nat.pos_of_ne_zero
            intro e
            apply q1
            rw [e]
            decide
          rw [if_neg q1]
          by_cases q2 : nI (h i) = nI left
          · have q2' := (nI_eq (by omega) (by omega)).mp q2
            have q3 : nI j < nI b0 := nI_lt (by omega) (by omega)
            rw [if_pos q2, if_pos q3, hskip]
            exact ihs
          · rw [if_neg q2, hskip]
            exact ihs
theorem m_aligns (hy : MdAt Y om) (hla : j_ln Y (om + ta) = 24) (hlb : j_ln Y (om + tb) = 24) (hlp : j_ln Y (om + tp) = 24) (hta : ta ≠ tp ∧ ta ≠ 0 ∧ ta ≠ 10 ∧ ta ≠ 11 ∧ ta ≠ 12) (htb : tb ≠ tp ∧ tb ≠ 0 ∧ tb ≠ 10 ∧ tb ≠ 11 ∧ tb ≠ 12) (htp : tp ≠ 10 ∧ tp ≠ 0 ∧ tp ≠ 11 ∧ tp ≠ 12) (hx24 : xs.length ≤ 24) (hy24 : ys.length ≤ 24) (h1 : RA M (om + ta) xs) (h2 : RA M (om + tb) ys) {mo : Int32} (hmo : M om 3 = mo) :
      ∃ M', s_X10_aligns Y M om (om + ta) (nI xs.length) (om + tb) (nI ys.length) (om + tp) = some M' ∧ MF om [10, 11, 12, tp] [22] M M' ∧ PT M' (om + tp) (q_align xs ys (decide (mo = 1))).1 ∧ M' om 22 = nI (q_align xs ys (decide (mo = 1))).2 := by
  obtain ⟨M1, a1, a2, a3⟩ := m_aligns1 (Y := Y) (om := om) hlp 24 0 j_fuel M (by omega) (j_fuel_gt (by omega)) (fun t ht => absurd ht (Nat.not_lt_zero _))
  obtain ⟨N, hN⟩ : ∃ z, z = j_up M1 om 22 0 := ⟨_, rfl⟩
  have g1 : MF om [tp] [22] M1 N := by rw [hN]; exact MF.uf.mono (by simp) (by simp)
  have g := (a2.mono (A' := [tp]) (F' := [22]) (by simp) (by simp)).trans g1
  have n3 : N om 3 = mo := by
    rw [g.fld (by decide) (by simp; exact Ne.symm htp.2.1)]
    exact hmo
  have hPN : PT N (om + tp) [] := a3.eq (by rw [hN]; exact j_up_o (by omega))
  have k1 := h1.eq (g.arr (t := ta) (by simp; exact hta.1) hta.2.1)
  have k2 := h2.eq (g.arr (t := tb) (by simp; exact htb.1) htb.2.1)
  have n22 : N om 22 = nI 0 := by rw [hN, j_up_s]; rfl
  unfold s_X10_aligns
  rw [nI_0] at a1
  rw [a1]
  dsimp only [Option.bind, lt_]
  rw [← hN, n3]
  by_cases q : mo = 1
  · rw [if_pos q]
    obtain ⟨N1, b1, b2, b3⟩ := m_candidates hy hla hlb ⟨hta.2.2.2.1, hta.2.1, hta.2.2.2.2⟩ ⟨htb.2.2.2.1, htb.2.1, htb.2.2.2.2⟩ hx24 hy24 k1 k2
    have hh9 : ∀ k, q_chains (q_cand xs ys) xs.length xs.length k ≤ 100 := fun k => by
      have := q_chains_le (c := q_cand xs ys) (n := xs.length) xs.length k
      omega
    have c2 := m_aligns2 hy (n := xs.length) hx24 hh9 b3 xs.length 0 j_fuel 0 (by omega) (j_fuel_gt (by omega)) (Nat.zero_le _)
    have hmx := q_most_mx (c := q_cand xs ys) (n := xs.length) xs.length (Nat.le_refl _)
    rw [Nat.sub_self] at hmx
    rw [Nat.zero_max, ← hmx] at c2
    have hml := q_most_le (c := q_cand xs ys) (n := xs.length) xs.length
    obtain ⟨N2, d1, d2, d3, d4, d5, d6, d7⟩ := m_aligns3 hy hla hlb hlp ⟨hta.1, hta.2.1, hta.2.2.1⟩ ⟨htb.1, htb.2.1, htb.2.2.1⟩ htp hx24 hy24 (c := q_cand xs ys) (h := q_chains (q_cand xs ys) xs.length xs.length) (fun i j hj => q_cand_lt hj) hh9
      xs.length 0 j_fuel (q_most (q_cand xs ys) xs.length xs.length) 0 0 N1 [] 0 (by omega) (j_fuel_gt (by omega)) (by omega) (Nat.le_refl _) (Nat.zero_le _) (hPN.eq (b2.arr (by simp; exact ⟨htp.2.2.1, htp.2.2.2⟩) htp.2.1)) (by rw [b2.fld (by simp) (by simp)]; exact n22) (fun p hp => absurd hp List.not_mem_nil)
      (k1.eq (b2.arr (t := ta) (by simp; exact ⟨hta.2.2.2.1, hta.2.2.2.2⟩) hta.2.1)) (k2.eq (b2.arr (t := tb) (by simp; exact ⟨htb.2.2.2.1, htb.2.2.2.2⟩) htb.2.1)) b3
    obtain ⟨r, hr9⟩ : ∃ z, z = q_anch xs ys (q_cand xs ys) (q_chains (q_cand xs ys) xs.length xs.length) xs.length 0 (q_most (q_cand xs ys) xs.length xs.length) 0 0 [] 0 := ⟨_, rfl⟩
    rw [← hr9] at d1 d3 d4 d5 d6 d7
    have l1 : RA N2 (om + ta) xs := ((k1.eq (b2.arr (t := ta) (by simp; exact ⟨hta.2.2.2.1, hta.2.2.2.2⟩) hta.2.1))).eq (d2.arr (t := ta) (by simp; exact ⟨hta.2.2.1, hta.1⟩) hta.2.1)
    have l2 : RA N2 (om + tb) ys := ((k2.eq (b2.arr (t := tb) (by simp; exact ⟨htb.2.2.2.1, htb.2.2.2.2⟩) htb.2.1))).eq (d2.arr (t := tb) (by simp; exact ⟨htb.2.2.1, htb.1⟩) htb.2.1)
    obtain ⟨N3, e1, e2, e3⟩ := m_pairs (i1 := xs.length) (j1 := ys.length) hy hla hlb hlp ⟨hta.1, hta.2.1, hta.2.2.1⟩ ⟨htb.1, htb.2.1, htb.2.2.1⟩ ⟨htp.1, htp.2.1⟩ (Nat.le_refl _) (Nat.le_refl _) hx24 hy24 d6 d7 l1 l2 d3 d5
    have eq9 : q_align xs ys (decide (mo = 1)) = (r.1 ++ q_pairs xs ys xs.length ys.length (xs.length - r.2.2.1) r.2.2.1 r.2.2.2, r.2.1) := by
      unfold q_align
      rw [if_pos (by simpa using q), ← hr9]
    refine ⟨N3, ?_, ?_, ?_, ?_⟩
    · rw [b1]
      dsimp only
      rw [nI_0] at c2
      rw [c2]
      dsimp only
      rw [nI_0] at d1
      rw [d1]
      dsimp only
      rw [e1]
    · exact (((g.mono (by simp) (by simp)).trans (b2.mono (by simp) (by simp))).trans (d2.mono (by simp) (by simp))).trans (e2.mono (by simp) (by simp))
    · rw [eq9]
      exact e3
    · rw [eq9, e2.fld (by simp) (by simp; exact Ne.symm htp.2.1)]
      exact d4
  · rw [if_neg q]
    dsimp only
    obtain ⟨N3, e1, e2, e3⟩ := m_pairs (i0 := 0) (j0 := 0) (i1 := xs.length) (j1 := ys.length) (P := []) hy hla hlb hlp ⟨hta.1, hta.2.1, hta.2.2.1⟩ ⟨htb.1, htb.2.1, htb.2.2.1⟩ ⟨htp.1, htp.2.1⟩ (Nat.le_refl _) (Nat.le_refl _) hx24 hy24 (Nat.zero_le _) (Nat.zero_le _) k1 k2 hPN (fun p hp => absurd hp List.not_mem_nil)
    have eq9 : q_align xs ys (decide (mo = 1)) = (q_pairs xs ys xs.length ys.length xs.length 0 0, 0) := by
      unfold q_align
      rw [if_neg (by simpa using q)]
    refine ⟨N3, ?_, (g.mono (by simp) (by simp)).trans (e2.mono (by simp) (by simp)), ?_, ?_⟩
    · rw [nI_0] at e1
      rw [e1]
    · rw [eq9]
      exact e3
    · rw [eq9, e2.fld (by simp) (by simp; exact Ne.symm htp.2.1)]
      exact n22
/-- the model's documents -/
def DM (M : JM) (om : Nat) (ds : Nat → List Int32) : Prop := ∀ r, r < 4 → M (om + 2) r = nI (ds r).length ∧ (ds r).length ≤ 24 ∧ ∀ i, i < (ds r).length → (ds r)[i]? = some (M (om + 1) (24 * r + i))
theorem DM.eq {M' : JM} {ds : Nat → List Int32} (h : DM M om ds) (e1 : M' (om + 1) = M (om + 1)) (e2 : M' (om + 2) = M (om + 2)) : DM M' om ds := fun r hr => by
  rw [e1, e2]
  exact h r hr
theorem m_takes (hy : MdAt Y om) {ds : Nat → List Int32} (hD : DM M om ds) {r : Nat} (hr : r < 4) {tq : Nat} (hlq : j_ln Y (om + tq) = 24) (htq : tq ≠ 0 ∧ tq ≠ 1 ∧ tq ≠ 2) :
      ∃ M', s_X10_takes Y M om (nI r) (om + tq) = some (nI (ds r).length, M') ∧ MF om [tq] [] M M' ∧ RA M' (om + tq) (ds r) := by
  have hS := hy (2, 2, 4) (by decide)
  have hS1 : j_rf Y om 2 = om + 2 := hS.1
  have hS2 : j_ln Y (om + 2) = 4 := hS.2
  have hE := hy (1, 1, 96) (by decide)
  have hE1 : j_rf Y om 1 = om + 1 := hE.1
  have hE2 : j_ln Y (om + 1) = 96 := hE.2
  have hl := (hD r hr).2.1
  have hgr : j_g (nI r) 4 := j_g_nI hr (by omega)
  have loop : ∀ (k i n : Nat) (M1 : JM), (ds r).length = i + k → k < n → MF om [tq] [] M M1 → (∀ t, t < i → (ds r)[t]? = some (M1 (om + tq) t)) →
      ∃ M', lp_X10_takes_1 Y (nI r) om (om + tq) n (nI i) M1 = some M' ∧ MF om [tq] [] M M' ∧ RA M' (om + tq) (ds r) := by
    intro k
    induction k with
    | zero =>
      intro i n M1 hi hn hf hv
      obtain ⟨n, rfl⟩ : ∃ z, n = z + 1 := ⟨n - 1, by omega⟩
      refine ⟨M1, ?_, hf, fun t ht => hv t (by omega)⟩
      unfold lp_X10_takes_1
      rw [hS1, hS2, if_pos hgr, nI_clamp (by omega), hf.arr (t := 2) (by simp; exact Ne.symm htq.2.2) (by decide), (hD r hr).1, if_pos (nI_le (by omega) (by omega))]
    | succ k ih =>
      intro i n M1 hi hn hf hv
      obtain ⟨n, rfl⟩ : ∃ z, n = z + 1 := ⟨n - 1, by omega⟩
      have hd := (hD r hr).2.2 i (by omega)
      obtain ⟨M', a1, a2, a3⟩ := ih (i + 1) n (j_up M1 (om + tq) i (M (om + 1) (24 * r + i))) (by omega) (by omega) (hf.trans MF.ua) (fun t ht => by
        by_cases e : t = i
        · rw [e, j_up_s]
          exact hd
        · rw [j_up_k e]
          exact hv t (by omega))
      refine ⟨M', ?_, a2, a3⟩
      unfold lp_X10_takes_1
      rw [hS1, hS2, hE1, hE2, hlq, if_pos hgr]
      simp only [nI_clamp (show r < 2 ^ 31 by omega), nI_24]
      rw [hf.arr (t := 2) (by simp; exact Ne.symm htq.2.2) (by decide), (hD r hr).1, if_neg (nI_ge (by omega) (by omega)), if_pos (j_g_nI (by omega) (by omega)), if_pos (j_g_nI (by omega) (by omega))]
      simp only [nI_clamp (show i < 2 ^ 31 by omega), nI_clamp (show 24 * r + i < 2 ^ 31 by omega)]
      dsimp only [lt_]
      rw [hf.arr (t := 1) (by simp; exact Ne.symm htq.2.1) (by decide), nI_1]
      exact a1
  obtain ⟨M', a1, a2, a3⟩ := loop (ds r).length 0 j_fuel M (by omega) (j_fuel_gt (by omega)) MF.refl (fun t ht => absurd ht (Nat.not_lt_zero _))
  refine ⟨M', ?_, a2, a3⟩
  unfold s_X10_takes
  rw [nI_0] at a1
  rw [a1]
  dsimp only [Option.bind]
  rw [hS1, hS2, if_pos hgr, nI_clamp (by omega), a2.arr (t := 2) (by simp; exact Ne.symm htq.2.2) (by decide), (hD r hr).1]
end MAS

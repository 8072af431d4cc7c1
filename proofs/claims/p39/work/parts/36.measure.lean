/-! ===== pure: Alignment.measureEnds ===== -/
def nD (b k : Nat) : Int32 := nI (b + k) + (-1)
theorem nD_s (b k : Nat) : nD b (k + 1) = nI (b + k) := nI_dec (b + k)
theorem nD_lt {b : Nat} (h : b < 2 ^ 31) : nD b 0 < nI b := by
  cases b with
  | zero => decide
  | succ b =>
    have e : nD (b + 1) 0 = nI b := nI_dec b
    rw [e]
    exact nI_lt (Nat.lt_succ_self _) h
theorem nI_max {a b : Nat} (ha : a < 2 ^ 31) (hb : b < 2 ^ 31) : (if nI a < nI b then nI b else nI a) = nI (max a b) := by
  by_cases h : a < b
  · rw [if_pos (nI_lt h hb), Nat.max_eq_right (by omega)]
  · rw [if_neg (nI_nlt (by omega) ha), Nat.max_eq_left (by omega)]
theorem nI_min {a b : Nat} (ha : a < 2 ^ 31) (hb : b < 2 ^ 31) : (if nI b < nI a then nI b else nI a) = nI (min a b) := by
  by_cases h : b < a
  · rw [if_pos (nI_lt h ha), Nat.min_eq_right (by omega)]
  · rw [if_neg (nI_nlt (by omega) hb), Nat.min_eq_left (by omega)]
def AlAt (Y : JY) (o : Nat) : Prop := (j_rf Y o 0 = o + 1 ∧ LnAt Y (o + 1) 24) ∧ (j_rf Y o 1 = o + 3 ∧ LnAt Y (o + 3) 24) ∧ (j_rf Y o 2 = o + 5 ∧ LnAt Y (o + 5) 24) ∧ (j_rf Y o 3 = o + 7 ∧ LnAt Y (o + 7) 24) ∧ (j_rf Y o 4 = o + 9 ∧ TbAt Y (o + 9) 625)
/-- the table of lengths holds what it should, for rows from i on -/
def QG (xs ys : List Int32) (i1 j0 j1 : Nat) (rs : List (List Int32)) (i : Nat) : Prop := ∀ i', i ≤ i' → i' ≤ i1 → ∀ j', j0 ≤ j' → j' ≤ j1 → t_at rs i' j' = nI (q_L xs ys i1 j1 i' j')
section MEA
variable {Y : JY} {M : JM} {o : Nat} {xs ys : List Int32} {q1 q4 c1 c4 : Nat} {i1 j0 j1 : Nat}
theorem p_measure2 (hy : AlAt Y o) (hy1 : LnAt Y q1 c1) (hy4 : LnAt Y q4 c4) (hd1 : q1 + 2 ≤ o ∨ o + 11 ≤ q1) (hd4 : q4 + 2 ≤ o ∨ o + 11 ≤ q4) (hi1 : i1 ≤ xs.length) (hj1 : j1 ≤ ys.length) (hi24 : i1 ≤ 24) (hj24 : j1 ≤ 24) (hj01 : j0 ≤ j1) {i : Nat} (hi : i ≤ i1) :
    ∀ (k n : Nat) (M : JM) (rs : List (List Int32)), k ≤ j1 - j0 + 1 → k < n → rs.length = 25 → TB M (o + 9) 625 25 rs → LN M q1 c1 xs → LN M q4 c4 ys → QG xs ys i1 j0 j1 rs (i + 1) → (∀ j', j0 + k ≤ j' → j' ≤ j1 → t_at rs i j' = nI (q_L xs ys i1 j1 i j')) →
      ∃ M' rs', lp_X0_measureEnds_2 Y (nI j0) (nI i1) (nI i) (nI j1) q1 q4 o n (nD j0 k) M = some M' ∧ JFr (o + 9) (o + 11) M M' ∧ rs'.length = 25 ∧ TB M' (o + 9) 625 25 rs' ∧ QG xs ys i1 j0 j1 rs' i := by
  intro k
  obtain ⟨⟨y0, z0⟩, ⟨y1, z1⟩, ⟨y2, z2⟩, ⟨y3, z3⟩, ⟨y4, z4⟩⟩ := hy
  induction k with
  | zero =>
    intro n M rs hk hn hl h h1 h4 hg hr
    obtain ⟨n, rfl⟩ : ∃ z, n = z + 1 := ⟨n - 1, by omega⟩
    refine ⟨M, rs, ?_, JFr.refl, hl, h, fun i' a b j' c d => ?_⟩
    · unfold lp_X0_measureEnds_2
      rw [if_pos (nD_lt (by omega))]
    · by_cases e : i' = i
      · rw [e]; exact hr j' (by omega) d
      · exact hg i' (by omega) b j' c d
  | succ k ih =>
    intro n M rs hk hn hl h h1 h4 hg hr
    obtain ⟨n, rfl⟩ : ∃ z, n = z + 1 := ⟨n - 1, by omega⟩
    have hk2 : j0 + k ≤ j1 := by omega
    have b0 := fun a b => q_L_le (xs := xs) (ys := ys) (i1 := i1) (j1 := j1) (i := a) (j := b) hi1
    have hv : (if nI i1 ≤ nI i ∨ nI j1 ≤ nI (j0 + k) then (0 : Int32) else (lt_ (if s_X4_at Y M q1 (nI i) = s_X4_at Y M q4 (nI (j0 + k)) then (s_X8_at Y M (j_rf Y o 4) (nI i + 1) (nI (j0 + k) + 1) + 1) else (if s_X8_at Y M (j_rf Y o 4) (nI i + 1) (nI (j0 + k)) < s_X8_at Y M (j_rf Y o 4) (nI i) (nI (j0 + k) + 1) then s_X8_at Y M (j_rf Y o 4) (nI i) (nI (j0 + k) + 1) else s_X8_at Y M (j_rf Y o 4) (nI i + 1) (nI (j0 + k)))) fun xx17 => xx17)) = nI (q_L xs ys i1 j1 i (j0 + k)) := by
      by_cases e1 : i1 ≤ i
      · rw [if_pos (Or.inl (nI_le e1 (by omega))), q_L_i e1]
        rfl
      · by_cases e2 : j1 ≤ j0 + k
        · rw [if_pos (Or.inr (nI_le e2 (by omega))), q_L_j e2]
          rfl
        · rw [if_neg (fun c => c.elim (fun c => nI_ge (by omega) (by omega) c) (fun c => nI_ge (by omega) (by omega) c))]
          dsimp only [lt_]
          rw [y4, nI_1, nI_1, p_tat z4 (by decide) (by decide) h (by omega) (by omega), p_tat z4 (by decide) (by decide) h (by omega) (by omega), p_tat z4 (by decide) (by decide) h (by omega) (by omega),
            hg (i + 1) (Nat.le_refl _) (by omega) (j0 + k + 1) (by omega) (by omega), hg (i + 1) (Nat.le_refl _) (by omega) (j0 + k) (by omega) (by omega), hr (j0 + k + 1) (by omega) (by omega), nI_1,
            p_at hy1 h1, p_at hy4 h4, l_at_lt (by omega) (show i < xs.length by omega), l_at_lt (by omega) (show j0 + k < ys.length by omega)]
          by_cases e3 : xs[i] = ys[j0 + k]
          · rw [if_pos e3, q_L_eq (i := i) (j := j0 + k) (by omega) (by omega) hi1 hj1 (by rw [List.getElem?_eq_getElem (by omega), List.getElem?_eq_getElem (by omega), e3])]
          · have e4 : xs[i]? ≠ ys[j0 + k]? := by
              rw [List.getElem?_eq_getElem (by omega), List.getElem?_eq_getElem (by omega)]
              exact fun c => e3 (Option.some.inj c)
            have b1 := b0 (i + 1) (j0 + k)
            have b2 := b0 i (j0 + k + 1)
            rw [if_neg e3, q_L_ne (i := i) (j := j0 + k) (by omega) (by omega) hi1 hj1 e4, nI_max (by omega) (by omega)]
    have hir : i < rs.length := by omega
    have hjc : j0 + k < 25 := by omega
    have hT := p_tput_TB z4 (by decide) h hir hjc (nI (q_L xs ys i1 j1 i (j0 + k)))
    have hF := p_tput_fr z4 (by decide) h hir hjc (nI (q_L xs ys i1 j1 i (j0 + k)))
    obtain ⟨M', rs', a1, a2, a3, a4, a5⟩ := ih n _ _ (by omega) (by omega) (by unfold t_put; rw [List.length_set]; exact hl) hT (h1.frame hF (by omega)) (h4.frame hF (by omega))
      (fun i' a b j' c d => by
        rw [t_at_put hir hjc h.2.2.2.2, if_neg (by omega)]
        exact hg i' a b j' c d)
      (fun j' a b => by
        rw [t_at_put hir hjc h.2.2.2.2]
        by_cases e : j' = j0 + k
        · rw [if_pos ⟨rfl, e⟩, e]
        · rw [if_neg (fun c => e c.2)]
          exact hr j' (by omega) b)
    refine ⟨M', rs', ?_, hF.trans a2, a3, a4, a5⟩
    unfold lp_X0_measureEnds_2
    rw [nD_s, if_neg (nI_nlt (by omega) (by omega)), hv]
    dsimp only [lt_]
    rw [y4]
    exact a1
theorem p_measure1 (hy : AlAt Y o) (hy1 : LnAt Y q1 c1) (hy4 : LnAt Y q4 c4) (hd1 : q1 + 2 ≤ o ∨ o + 11 ≤ q1) (hd4 : q4 + 2 ≤ o ∨ o + 11 ≤ q4) (hi1 : i1 ≤ xs.length) (hj1 : j1 ≤ ys.length) (hi24 : i1 ≤ 24) (hj24 : j1 ≤ 24) (hj01 : j0 ≤ j1) {i0 : Nat} (hi01 : i0 ≤ i1) :
    ∀ (k n : Nat) (M : JM) (rs : List (List Int32)), k ≤ i1 - i0 + 1 → k < n → rs.length = 25 → TB M (o + 9) 625 25 rs → LN M q1 c1 xs → LN M q4 c4 ys → QG xs ys i1 j0 j1 rs (i0 + k) →
      ∃ M' rs', lp_X0_measureEnds_1 Y (nI i0) (nI j0) (nI i1) (nI j1) q1 q4 o n (nD i0 k) M = some M' ∧ JFr (o + 9) (o + 11) M M' ∧ rs'.length = 25 ∧ TB M' (o + 9) 625 25 rs' ∧ QG xs ys i1 j0 j1 rs' i0 := by
  intro k
  induction k with
  | zero =>
    intro n M rs hk hn hl h h1 h4 hg
    obtain ⟨n, rfl⟩ : ∃ z, n = z + 1 := ⟨n - 1, by omega⟩
    refine ⟨M, rs, ?_, JFr.refl, hl, h, hg⟩
    unfold lp_X0_measureEnds_1
    rw [if_pos (nD_lt (by omega))]
  | succ k ih =>
    intro n M rs hk hn hl h h1 h4 hg
    obtain ⟨n, rfl⟩ : ∃ z, n = z + 1 := ⟨n - 1, by omega⟩
    obtain ⟨M1, rs1, a1, a2, a3, a4, a5⟩ := p_measure2 hy hy1 hy4 hd1 hd4 hi1 hj1 hi24 hj24 hj01 (show i0 + k ≤ i1 by omega) (j1 - j0 + 1) j_fuel M rs (Nat.le_refl _) (j_fuel_gt (by omega)) hl h h1 h4 hg (fun j' a b => absurd a (by omega))
    rw [nD_s, show j0 + (j1 - j0) = j1 by omega] at a1
    obtain ⟨M', rs', b1, b2, b3, b4, b5⟩ := ih n M1 rs1 (by omega) (by omega) a3 a4 (h1.frame a2 (by omega)) (h4.frame a2 (by omega)) a5
    refine ⟨M', rs', ?_, a2.trans b2, b3, b4, b5⟩
    unfold lp_X0_measureEnds_1
    rw [nD_s, if_neg (nI_nlt (by omega) (by omega)), a1]
    dsimp only [Option.bind, lt_]
    exact b1
theorem p_measureEnds (hy : AlAt Y o) (hy1 : LnAt Y q1 c1) (hy4 : LnAt Y q4 c4) (hd1 : q1 + 2 ≤ o ∨ o + 11 ≤ q1) (hd4 : q4 + 2 ≤ o ∨ o + 11 ≤ q4) (hi1 : i1 ≤ xs.length) (hj1 : j1 ≤ ys.length) (hi24 : i1 ≤ 24) (hj24 : j1 ≤ 24) (hj01 : j0 ≤ j1) {i0 : Nat} (hi01 : i0 ≤ i1)
    {rs : List (List Int32)} (hl : rs.length = 25) (h : TB M (o + 9) 625 25 rs) (h1 : LN M q1 c1 xs) (h4 : LN M q4 c4 ys) :
      ∃ M' rs', s_X0_measureEnds Y M o q1 (nI i0) (nI i1) q4 (nI j0) (nI j1) = some M' ∧ JFr (o + 9) (o + 11) M M' ∧ rs'.length = 25 ∧ TB M' (o + 9) 625 25 rs' ∧ QG xs ys i1 j0 j1 rs' i0 := by
  obtain ⟨M', rs', a1, a2, a3, a4, a5⟩ := p_measure1 hy hy1 hy4 hd1 hd4 hi1 hj1 hi24 hj24 hj01 hi01 (i1 - i0 + 1) j_fuel M rs (Nat.le_refl _) (j_fuel_gt (by omega)) hl h h1 h4 (fun i' a b => absurd a (by omega))
  rw [nD_s, show i0 + (i1 - i0) = i1 by omega] at a1
  refine ⟨M', rs', ?_, a2, a3, a4, a5⟩
  unfold s_X0_measureEnds
  rw [a1]
  rfl
end MEA

/-! ===== pure: what is true of all moves that are found ===== -/
theorem q_run_mb {xs ys : List Int32} {fa fb : Nat → Bool} : ∀ (d i j t : Nat), t < q_run xs ys fa fb d i j → q_mb xs ys fa fb (i + t) (j + t) := by
  intro d
  induction d with
  | zero => intro i j t h; exact absurd h (Nat.not_lt_zero _)
  | succ d ih =>
    intro i j t h
    unfold q_run at h
    by_cases q : q_mb xs ys fa fb i j
    · rw [if_pos q] at h
      cases t with
      | zero => exact q
      | succ t =>
        have := ih (i + 1) (j + 1) t (by omega)
        rw [show i + (t + 1) = i + 1 + t by omega, show j + (t + 1) = j + 1 + t by omega]
        exact this
    · rw [if_neg q] at h
      exact absurd h (Nat.not_lt_zero _)
theorem q_run_mono {xs ys : List Int32} {fa fb ga gb : Nat → Bool} (ha : ∀ t, ga t = true → fa t = true) (hb : ∀ t, gb t = true → fb t = true) : ∀ (d i j : Nat), q_run xs ys ga gb d i j ≤ q_run xs ys fa fb d i j := by
  intro d
  induction d with
  | zero => intro i j; exact Nat.le_refl _
  | succ d ih =>
    intro i j
    unfold q_run
    by_cases q : q_mb xs ys ga gb i j
    · have q' : q_mb xs ys fa fb i j := ⟨q.1, q.2.1, ha _ q.2.2.1, hb _ q.2.2.2.1, q.2.2.2.2⟩
      rw [if_pos q, if_pos q']
      have := ih (i + 1) (j + 1)
      omega
    · rw [if_neg q]
      exact Nat.zero_le _
theorem q_sc2_max {R : Nat → Nat → Nat} {i : Nat} : ∀ (d j : Nat) (st : QS), st.1 ≤ (q_sc2 R i d j st).1 ∧ ∀ k, j ≤ k → k < j + d → R i k ≤ (q_sc2 R i d j st).1 := by
  intro d
  induction d with
  | zero => intro j st; exact ⟨Nat.le_refl _, fun k h1 h2 => by omega⟩
  | succ d ih =>
    intro j st
    unfold q_sc2
    obtain ⟨h1, h2⟩ := ih (j + 1) (if R i j ≤ st.1 then st else (R i j, nI i, nI j))
    have h3 : st.1 ≤ (if R i j ≤ st.1 then st else (R i j, nI i, nI j)).1 ∧ R i j ≤ (if R i j ≤ st.1 then st else (R i j, nI i, nI j)).1 := by
      by_cases q : R i j ≤ st.1
      · rw [if_pos q]
        exact ⟨Nat.le_refl _, q⟩
      · rw [if_neg q]
        exact ⟨by dsimp only; omega, Nat.le_refl _⟩
    refine ⟨Nat.le_trans h3.1 h1, fun k hk1 hk2 => ?_⟩
    by_cases e : k = j
    · rw [e]
      exact Nat.le_trans h3.2 h1
    · exact h2 k (by omega) (by omega)
theorem q_sc1_max {R : Nat → Nat → Nat} {m : Nat} : ∀ (d i : Nat) (st : QS), st.1 ≤ (q_sc1 R m d i st).1 ∧ ∀ k j, i ≤ k → k < i + d → j < m → R k j ≤ (q_sc1 R m d i st).1 := by
  intro d
  induction d with
  | zero => intro i st; exact ⟨Nat.le_refl _, fun k j h1 h2 => by omega⟩
  | succ d ih =>
    intro i st
    unfold q_sc1
    obtain ⟨h1, h2⟩ := ih (i + 1) (q_sc2 R i m 0 st)
    obtain ⟨h3, h4⟩ := q_sc2_max (R := R) (i := i) m 0 st
    refine ⟨Nat.le_trans h3 h1, fun k j hk1 hk2 hj => ?_⟩
    by_cases e : k = i
    · rw [e]
      exact Nat.le_trans (h4 j (Nat.zero_le _) (by omega)) h1
    · exact h2 k j (by omega) (by omega) hj
/-- the best run is one, and no run is longer -/
theorem q_best_is {xs ys : List Int32} {fa fb : Nat → Bool} (h : 1 ≤ (q_best xs ys fa fb).1) : ∃ i j, i < xs.length ∧ j < ys.length ∧ q_best xs ys fa fb = (q_run xs ys fa fb 24 i j, nI i, nI j) := by
  have hs := q_sc1_sr (R := fun i j => q_run xs ys fa fb 24 i j) (n := xs.length) (m := ys.length) (mn := 1) (Nat.le_refl _) xs.length 0 (1 - 1, -1, -1) (0, 0, 0) (by omega) (Or.inl ⟨rfl, by decide⟩)
  have hb : q_sc1 (fun i j => q_run xs ys fa fb 24 i j) ys.length xs.length 0 (0, 0, 0) = q_best xs ys fa fb := rfl
  rw [hb] at hs
  rcases hs with ⟨c1, c2⟩ | ⟨c1, c2, i, j, hi, hj, c3⟩
  · omega
  · exact ⟨i, j, hi, hj, by rw [← c1]; exact c3⟩
theorem q_best_max {xs ys : List Int32} {fa fb : Nat → Bool} {i j : Nat} (hi : i < xs.length) (hj : j < ys.length) : q_run xs ys fa fb 24 i j ≤ (q_best xs ys fa fb).1 :=
  (q_sc1_max (R := fun i j => q_run xs ys fa fb 24 i j) (m := ys.length) xs.length 0 (0, 0, 0)).2 i j (Nat.zero_le _) (by omega) hj
theorem q_best_mono {xs ys : List Int32} {fa fb ga gb : Nat → Bool} (ha : ∀ t, ga t = true → fa t = true) (hb : ∀ t, gb t = true → fb t = true) : (q_best xs ys ga gb).1 ≤ (q_best xs ys fa fb).1 := by
  by_cases h : 1 ≤ (q_best xs ys ga gb).1
  · obtain ⟨i, j, hi, hj, e⟩ := q_best_is h
    have e1 : (q_best xs ys ga gb).1 = q_run xs ys ga gb 24 i j := by rw [e]
    rw [e1]
    exact Nat.le_trans (q_run_mono ha hb 24 i j) (q_best_max hi hj)
  · omega
/-- what holds of moves one after another: from free lines alone, none longer than B -/
def MVL (xs ys : List Int32) (mn : Nat) : Nat → (Nat → Bool) → (Nat → Bool) → List (List Int32) → Prop
  | _, _, _, [] => True
  | B, fa, fb, r :: rs => ∃ a b s, r = [nI a, nI b, nI s] ∧ mn ≤ s ∧ s ≤ B ∧ (a + s ≤ xs.length ∧ b + s ≤ ys.length) ∧ (∀ t, t < s → q_mb xs ys fa fb (a + t) (b + t)) ∧ MVL xs ys mn s (q_mk fa a s) (q_mk fb b s) rs
theorem q_mk_sub {f : Nat → Bool} {a s : Nat} : ∀ t, q_mk f a s t = true → f t = true := by
  intro t h
  unfold q_mk at h
  simp only [Bool.and_eq_true] at h
  exact h.1
theorem q_mv_MVL {xs ys : List Int32} {mn : Nat} (hm : 1 ≤ mn) (hx : xs.length ≤ 24) (hy : ys.length ≤ 24) : ∀ (d B : Nat) (fa fb : Nat → Bool) (acc : List (List Int32)), (q_best xs ys fa fb).1 ≤ B → ∃ L, q_mv xs ys mn d fa fb acc = acc ++ L ∧ MVL xs ys mn B fa fb L := by
  intro d
  induction d with
  | zero => intro B fa fb acc h; exact ⟨[], by rw [List.append_nil]; rfl, trivial⟩
  | succ d ih =>
    intro B fa fb acc h
    unfold q_mv
    by_cases q : (q_best xs ys fa fb).1 < mn
    · rw [if_pos q]
      exact ⟨[], by rw [List.append_nil], trivial⟩
    · rw [if_neg q]
      obtain ⟨i, j, hi, hj, e⟩ := q_best_is (xs := xs) (ys := ys) (fa := fa) (fb := fb) (by omega)
      have hr := q_run_le (xs := xs) (ys := ys) (fa := fa) (fb := fb) 24 i j
      have hb2 := q_best_mono (xs := xs) (ys := ys) (fa := fa) (fb := fb) (ga := q_mk fa i (q_run xs ys fa fb 24 i j)) (gb := q_mk fb j (q_run xs ys fa fb 24 i j)) q_mk_sub q_mk_sub
      rw [e] at h q ⊢
      rw [e] at hb2
      dsimp only at h q hb2 ⊢
      rw [nI_clamp (by omega), nI_clamp (by omega)]
      obtain ⟨L, e1, e2⟩ := ih (q_run xs ys fa fb 24 i j) (q_mk fa i (q_run xs ys fa fb 24 i j)) (q_mk fb j (q_run xs ys fa fb 24 i j)) (acc ++ [[nI i, nI j, nI (q_run xs ys fa fb 24 i j)]]) hb2
      refine ⟨[nI i, nI j, nI (q_run xs ys fa fb 24 i j)] :: L, ?_, i, j, _, rfl, by omega, h, ⟨by omega, by omega⟩, fun t ht => q_run_mb 24 i j t ht, e2⟩
      rw [e1, List.append_assoc]
      rfl
theorem q_moves {xs ys : List Int32} {mn : Nat} (hm : 1 ≤ mn) (hx : xs.length ≤ 24) (hy : ys.length ≤ 24) (fa fb : Nat → Bool) : MVL xs ys mn 24 fa fb (q_mv xs ys mn 24 fa fb []) := by
  obtain ⟨L, e1, e2⟩ := q_mv_MVL hm hx hy 24 24 fa fb [] (by
    by_cases h : 1 ≤ (q_best xs ys fa fb).1
    · obtain ⟨i, j, hi, hj, e⟩ := q_best_is h
      have hr := q_run_le (xs := xs) (ys := ys) (fa := fa) (fb := fb) 24 i j
      rw [e]
      dsimp only
      omega
    · omega)
  rw [e1, List.nil_append]
  exact e2

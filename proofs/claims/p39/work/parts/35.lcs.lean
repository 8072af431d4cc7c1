/-! ===== pure: longest common subsequences ===== -/
def lcs : List Int32 → List Int32 → Nat
  | [], _ => 0
  | _ :: _, [] => 0
  | x :: a, y :: b => if x = y then lcs a b + 1 else max (lcs a (y :: b)) (lcs (x :: a) b)
termination_by a b => a.length + b.length
theorem lcs_nil {b : List Int32} : lcs [] b = 0 := by rw [lcs]
theorem lcs_nil2 {a : List Int32} : lcs a [] = 0 := by
  cases a with
  | nil => rw [lcs]
  | cons x a => rw [lcs]
theorem lcs_cons {x y : Int32} {a b : List Int32} : lcs (x :: a) (y :: b) = if x = y then lcs a b + 1 else max (lcs a (y :: b)) (lcs (x :: a) b) := by rw [lcs]
theorem lcs_all : ∀ (n : Nat) (a b : List Int32), a.length + b.length ≤ n → (∀ y, lcs a (y :: b) ≤ lcs a b + 1) ∧ (∀ x, lcs (x :: a) b ≤ lcs a b + 1) ∧ (∀ x, lcs a b ≤ lcs (x :: a) b) ∧ (∀ y, lcs a b ≤ lcs a (y :: b)) := by
  intro n
  induction n with
  | zero =>
    intro a b h
    have ha : a = [] := List.length_eq_zero_iff.mp (by omega)
    have hb : b = [] := List.length_eq_zero_iff.mp (by omega)
    subst ha
    subst hb
    refine ⟨fun y => ?_, fun x => ?_, fun x => ?_, fun y => ?_⟩
    · rw [lcs_nil]; omega
    · rw [lcs_nil2]; omega
    · rw [lcs_nil]; omega
    · rw [lcs_nil]; omega
  | succ n ih =>
    intro a b h
    have hC : ∀ x, lcs a b ≤ lcs (x :: a) b := by
      intro x
      cases b with
      | nil => rw [lcs_nil2]; omega
      | cons y b =>
        rw [lcs_cons]
        have h1 := (ih a b (by simp at h; omega)).1 y
        by_cases e : x = y
        · rw [if_pos e]; exact h1
        · rw [if_neg e]; exact Nat.le_max_left _ _
    have hD : ∀ y, lcs a b ≤ lcs a (y :: b) := by
      intro y
      cases a with
      | nil => rw [lcs_nil]; omega
      | cons x a =>
        rw [lcs_cons]
        have h1 := (ih a b (by simp at h; omega)).2.1 x
        by_cases e : x = y
        · rw [if_pos e]; exact h1
        · rw [if_neg e]; exact Nat.le_max_right _ _
    refine ⟨fun y => ?_, fun x => ?_, hC, hD⟩
    · cases a with
      | nil => rw [lcs_nil]; omega
      | cons x a =>
        rw [lcs_cons]
        have h1 := ih a b (by simp at h; omega)
        have h2 := h1.2.2.1 x
        have h3 := h1.1 y
        by_cases e : x = y
        · rw [if_pos e]; omega
        · rw [if_neg e]; omega
    · cases b with
      | nil => rw [lcs_nil2]; omega
      | cons y b =>
        rw [lcs_cons]
        have h1 := ih a b (by simp at h; omega)
        have h2 := h1.2.2.2 y
        have h3 := h1.2.1 x
        by_cases e : x = y
        · rw [if_pos e]; omega
        · rw [if_neg e]; omega
theorem lcs_r1 {a b : List Int32} {y : Int32} : lcs a (y :: b) ≤ lcs a b + 1 := (lcs_all _ a b (Nat.le_refl _)).1 y
theorem lcs_l1 {a b : List Int32} {x : Int32} : lcs (x :: a) b ≤ lcs a b + 1 := (lcs_all _ a b (Nat.le_refl _)).2.1 x
theorem lcs_l {a b : List Int32} {x : Int32} : lcs a b ≤ lcs (x :: a) b := (lcs_all _ a b (Nat.le_refl _)).2.2.1 x
theorem lcs_r {a b : List Int32} {y : Int32} : lcs a b ≤ lcs a (y :: b) := (lcs_all _ a b (Nat.le_refl _)).2.2.2 y
theorem lcs_le {a b : List Int32} : lcs a b ≤ a.length := by
  induction a with
  | nil => rw [lcs_nil]; exact Nat.zero_le _
  | cons x a ih =>
    have := lcs_l1 (a := a) (b := b) (x := x)
    simp only [List.length_cons]
    omega
/-- how long an alignment of what is left from i and j on can be, in a part that ends at i1 and j1 -/
def q_L (xs ys : List Int32) (i1 j1 i j : Nat) : Nat := lcs (l_seg xs i i1) (l_seg ys j j1)
section QL
variable {xs ys : List Int32} {i1 j1 i j : Nat}
theorem q_L_i (h : i1 ≤ i) : q_L xs ys i1 j1 i j = 0 := by
  unfold q_L
  rw [l_seg_nil h, lcs_nil]
theorem q_L_j (h : j1 ≤ j) : q_L xs ys i1 j1 i j = 0 := by
  unfold q_L
  rw [l_seg_nil h, lcs_nil2]
theorem q_L_eq (hi : i < i1) (hj : j < j1) (hx : i1 ≤ xs.length) (hy : j1 ≤ ys.length) (e : xs[i]? = ys[j]?) : q_L xs ys i1 j1 i j = q_L xs ys i1 j1 (i + 1) (j + 1) + 1 := by
  unfold q_L
  rw [List.getElem?_eq_getElem (by omega), List.getElem?_eq_getElem (by omega)] at e
  rw [l_seg_step hi (by omega), l_seg_step hj (by omega), lcs_cons, if_pos (Option.some.inj e)]
theorem q_L_ne (hi : i < i1) (hj : j < j1) (hx : i1 ≤ xs.length) (hy : j1 ≤ ys.length) (e : xs[i]? ≠ ys[j]?) : q_L xs ys i1 j1 i j = max (q_L xs ys i1 j1 (i + 1) j) (q_L xs ys i1 j1 i (j + 1)) := by
  unfold q_L
  rw [List.getElem?_eq_getElem (by omega), List.getElem?_eq_getElem (by omega)] at e
  rw [l_seg_step hi (by omega), l_seg_step hj (by omega), lcs_cons, if_neg (fun c => e (congrArg some c))]
theorem q_L_mi (hx : i1 ≤ xs.length) : q_L xs ys i1 j1 (i + 1) j ≤ q_L xs ys i1 j1 i j := by
  unfold q_L
  by_cases hi : i < i1
  · rw [l_seg_step hi (by omega)]
    exact lcs_l
  · rw [l_seg_nil (show i1 ≤ i + 1 by omega), lcs_nil]
    exact Nat.zero_le _
theorem q_L_mj (hy : j1 ≤ ys.length) : q_L xs ys i1 j1 i (j + 1) ≤ q_L xs ys i1 j1 i j := by
  unfold q_L
  by_cases hj : j < j1
  · rw [l_seg_step hj (by omega)]
    exact lcs_r
  · rw [l_seg_nil (show j1 ≤ j + 1 by omega), lcs_nil2]
    exact Nat.zero_le _
theorem q_L_mjk (hy : j1 ≤ ys.length) : ∀ (k : Nat), q_L xs ys i1 j1 i (j + k) ≤ q_L xs ys i1 j1 i j := by
  intro k
  induction k with
  | zero => exact Nat.le_refl _
  | succ k ih => exact Nat.le_trans (q_L_mj hy) ih
theorem q_L_i1 (hx : i1 ≤ xs.length) : q_L xs ys i1 j1 i j ≤ q_L xs ys i1 j1 (i + 1) j + 1 := by
  unfold q_L
  by_cases hi : i < i1
  · rw [l_seg_step hi (by omega)]
    exact lcs_l1
  · rw [l_seg_nil (show i1 ≤ i by omega), lcs_nil]
    exact Nat.zero_le _
theorem q_L_j1 (hy : j1 ≤ ys.length) : q_L xs ys i1 j1 i j ≤ q_L xs ys i1 j1 i (j + 1) + 1 := by
  unfold q_L
  by_cases hj : j < j1
  · rw [l_seg_step hj (by omega)]
    exact lcs_r1
  · rw [l_seg_nil (show j1 ≤ j by omega), lcs_nil2]
    exact Nat.zero_le _
theorem q_L_le (hx : i1 ≤ xs.length) : q_L xs ys i1 j1 i j ≤ i1 - i := by
  unfold q_L
  have := lcs_le (a := l_seg xs i i1) (b := l_seg ys j j1)
  rw [l_seg_len hx] at this
  exact this
theorem q_get {zs : List Int32} {t : Nat} (h : t < zs.length) : (zs[t]?).getD (-1) = zs[t] := by
  rw [List.getElem?_eq_getElem h]
  rfl
/-- the first equal line, and whether it is taken -/
theorem q_none (hi : i < i1) (hx : i1 ≤ xs.length) (hy : j1 ≤ ys.length) : ∀ (k j : Nat), j1 = j + k → l_find ys ((xs[i]?).getD (-1)) j k = none → q_L xs ys i1 j1 i j = q_L xs ys i1 j1 (i + 1) j := by
  intro k
  induction k with
  | zero =>
    intro j hj h
    rw [q_L_j (by omega), q_L_j (by omega)]
  | succ k ih =>
    intro j hj h
    unfold l_find at h
    split at h
    · cases h
    · rename_i q
      have h1 := ih (j + 1) (by omega) h
      have e : xs[i]? ≠ ys[j]? := by
        intro e
        apply q
        rw [e]
      rw [q_L_ne hi (by omega) hx hy e, h1]
      have := q_L_mj (xs := xs) (i1 := i1) (i := i + 1) (j := j) hy
      omega
theorem q_some (hi : i < i1) (hx : i1 ≤ xs.length) (hy : j1 ≤ ys.length) : ∀ (k j t : Nat), j1 = j + k → l_find ys ((xs[i]?).getD (-1)) j k = some t → q_L xs ys i1 j1 i j = max (q_L xs ys i1 j1 (i + 1) j) (q_L xs ys i1 j1 (i + 1) (t + 1) + 1) := by
  intro k
  induction k with
  | zero =>
    intro j t hj h
    cases h
  | succ k ih =>
    intro j t hj h
    unfold l_find at h
    split at h
    · rename_i q
      cases h
      have e : xs[i]? = ys[j]? := by
        rw [q_get (by omega), q_get (by omega)] at q
        rw [List.getElem?_eq_getElem (by omega), List.getElem?_eq_getElem (by omega), q]
      rw [q_L_eq hi (by omega) hx hy e]
      have := q_L_j1 (xs := xs) (i1 := i1) (i := i + 1) (j := j) hy
      omega
    · rename_i q
      have h1 := ih (j + 1) t (by omega) h
      have e : xs[i]? ≠ ys[j]? := by
        intro e
        apply q
        rw [e]
      rw [q_L_ne hi (by omega) hx hy e, h1]
      have := q_L_mj (xs := xs) (i1 := i1) (i := i + 1) (j := j) hy
      omega
end QL
/-- the pairs of the plain alignment of a part -/
def q_pairs (xs ys : List Int32) (i1 j1 : Nat) : Nat → Nat → Nat → List (Nat × Nat)
  | 0, _, _ => []
  | d + 1, i, j => match l_find ys ((xs[i]?).getD (-1)) j (j1 - j) with
    | none => q_pairs xs ys i1 j1 d (i + 1) j
    | some k => if q_L xs ys i1 j1 (i + 1) (k + 1) + 1 = q_L xs ys i1 j1 i j then (i, k) :: q_pairs xs ys i1 j1 d (i + 1) (k + 1) else q_pairs xs ys i1 j1 d (i + 1) j

/-! ===== pure: a last row, a number not above nought ===== -/
theorem t_at_last {rs : List (List Int32)} {r : List Int32} {j : Nat} : t_at (rs ++ [r]) rs.length j = (r[j]?).getD (-1) := by
  unfold t_at
  rw [List.getElem?_append_right (Nat.le_refl _), Nat.sub_self]
  rfl
theorem nI_le0 {n : Nat} (hn : n < 2 ^ 31) : nI n ≤ 0 ↔ n = 0 := by
  constructor
  · intro h
    cases n with
    | zero => rfl
    | succ n => exact absurd h (nI_nle (by omega) hn)
  · intro h
    rw [h]
    decide

/-! ===== pure: frames, Lines ===== -/
def JFr (lo hi : Nat) (M M' : JM) : Prop := ∀ a, a < lo ∨ hi ≤ a → M' a = M a
theorem JFr.refl {lo hi : Nat} {M : JM} : JFr lo hi M M := fun _ _ => rfl
theorem JFr.trans {lo hi : Nat} {M M1 M2 : JM} (h1 : JFr lo hi M M1) (h2 : JFr lo hi M1 M2) : JFr lo hi M M2 := fun a h => (h2 a h).trans (h1 a h)
theorem JFr.mono {lo hi lo' hi' : Nat} {M M' : JM} (h : JFr lo hi M M') (h1 : lo' ≤ lo) (h2 : hi ≤ hi') : JFr lo' hi' M M' := fun a q => h a (by omega)
theorem JFr.up {M : JM} {o k : Nat} {v : Int32} : JFr o (o + 1) M (j_up M o k v) := by
  intro a h
  funext b
  have : ¬ (a = o ∧ b = k) := by omega
  simp [j_up, this]
theorem j_up_s {M : JM} {o k : Nat} {v : Int32} : j_up M o k v o k = v := by simp [j_up]
theorem j_up_k {M : JM} {o k b : Nat} {v : Int32} (h : b ≠ k) : j_up M o k v o b = M o b := by simp [j_up, h]
theorem j_up_o {M : JM} {o k a : Nat} {v : Int32} (h : a ≠ o) : j_up M o k v a = M a := by
  funext b
  simp [j_up, h]
theorem nI_ofNat (n : Nat) : Int32.ofNat n = nI n := rfl
theorem nI_m1 {j : Nat} (h : j < 2 ^ 31) : ¬ nI j = (-1 : Int32) := by
  intro e
  have h1 := nI_pos h
  rw [e] at h1
  exact h1 (by decide)
theorem m1_neg : (-1 : Int32) < 0 := by decide
def l_at (xs : List Int32) (i : Int32) : Int32 := if i < 0 then -1 else (xs[i.toNatClampNeg]?).getD (-1)
theorem l_at_nI {xs : List Int32} {j : Nat} (hj : j < 2 ^ 31) : l_at xs (nI j) = (xs[j]?).getD (-1) := by
  unfold l_at
  rw [if_neg (nI_pos hj), nI_clamp hj]
theorem l_at_lt {xs : List Int32} {j : Nat} (hj : j < 2 ^ 31) (h : j < xs.length) : l_at xs (nI j) = xs[j] := by
  rw [l_at_nI hj, List.getElem?_eq_getElem h]
  rfl
theorem l_at_ge {xs : List Int32} {j : Nat} (hj : j < 2 ^ 31) (h : xs.length ≤ j) : l_at xs (nI j) = -1 := by
  rw [l_at_nI hj, List.getElem?_eq_none h]
  rfl
theorem l_at_neg {xs : List Int32} {i : Int32} (h : i < 0) : l_at xs i = -1 := by
  unfold l_at
  rw [if_pos h]
def LnAt (Y : JY) (o cap : Nat) : Prop := j_rf Y o 0 = o + 1 ∧ j_ln Y (o + 1) = cap ∧ cap < 1000
def LN (M : JM) (o cap : Nat) (xs : List Int32) : Prop := M o 1 = nI xs.length ∧ xs.length ≤ cap ∧ ∀ i, i < xs.length → xs[i]? = some (M (o + 1) i)
theorem LN.frame {lo hi : Nat} {M M' : JM} {o cap : Nat} {xs : List Int32} (h : LN M o cap xs) (hf : JFr lo hi M M') (hd : o + 2 ≤ lo ∨ hi ≤ o) : LN M' o cap xs := by
  obtain ⟨h1, h2, h3⟩ := h
  refine ⟨?_, h2, fun i hi => ?_⟩
  · rw [hf o (by omega)]; exact h1
  · rw [hf (o + 1) (by omega)]; exact h3 i hi
theorem LN.nil {M : JM} {o cap : Nat} (h : M o 1 = 0) : LN M o cap [] := ⟨h, Nat.zero_le _, fun i hi => absurd hi (Nat.not_lt_zero _)⟩
section LNS
variable {Y : JY} {M : JM} {o cap : Nat} {xs : List Int32}
theorem p_size (h : LN M o cap xs) : s_X4_size Y M o = nI xs.length := h.1
theorem p_isFull (hy : LnAt Y o cap) (h : LN M o cap xs) : s_X4_isFull Y M o = if xs.length < cap then 0 else 1 := by
  obtain ⟨y1, y2, y3⟩ := hy
  unfold s_X4_isFull
  rw [y1, y2, h.1, nI_ofNat]
  have := h.2.1
  by_cases q : xs.length < cap
  · rw [if_pos q, if_pos (nI_lt q (by omega))]
  · rw [if_neg q, if_neg (nI_nlt (by omega) (by omega))]
theorem p_has (hy : LnAt Y o cap) (h : LN M o cap xs) (i : Int32) : s_X4_has Y M o i = if ¬ i < 0 ∧ i.toNatClampNeg < xs.length then 1 else 0 := by
  have := h.2.1
  have := hy.2.2
  unfold s_X4_has
  rw [h.1]
  by_cases n : i < 0
  · rw [if_pos (Or.inl n), if_neg (fun q => q.1 n)]
  · obtain ⟨j, hj, rfl⟩ := nI_of n
    rw [nI_clamp hj]
    by_cases q : j < xs.length
    · rw [if_neg (fun c => c.elim n (fun c => absurd c (nI_ge q (by omega)))), if_pos ⟨n, q⟩]
    · rw [if_pos (Or.inr (nI_le (by omega) hj)), if_neg (fun c => q c.2)]
theorem p_at (hy : LnAt Y o cap) (h : LN M o cap xs) (i : Int32) : s_X4_at Y M o i = l_at xs i := by
  obtain ⟨y1, y2, y3⟩ := hy
  obtain ⟨h1, h2, h3⟩ := h
  unfold s_X4_at l_at
  rw [y1, y2, h1, nI_ofNat]
  by_cases n : i < 0
  · rw [if_pos (Or.inl n), if_pos n]
  · obtain ⟨j, hj, rfl⟩ := nI_of n
    rw [if_neg n, nI_clamp hj]
    by_cases q : j < xs.length
    · rw [if_neg (fun c => c.elim n (fun c => c.elim (fun c => absurd c (nI_ge q (by omega))) (fun c => absurd c (nI_ge (by omega) (by omega))))), h3 j q]
      rfl
    · rw [if_pos (Or.inr (Or.inl (nI_le (by omega) hj))), List.getElem?_eq_none (by omega)]
      rfl
theorem p_clear : s_X4_clear Y M o = j_up M o 1 0 := rfl
theorem p_clear_LN : LN (s_X4_clear Y M o) o cap [] := LN.nil (by rw [p_clear]; exact j_up_s)
theorem p_clear_fr : JFr o (o + 2) M (s_X4_clear Y M o) := JFr.up.mono (Nat.le_refl _) (by omega)
theorem p_put (hy : LnAt Y o cap) (h : LN M o cap xs) {j : Nat} (hj : j < xs.length) (v : Int32) : s_X4_put Y M o (nI j) v = j_up M (o + 1) j v := by
  obtain ⟨y1, y2, y3⟩ := hy
  obtain ⟨h1, h2, h3⟩ := h
  unfold s_X4_put
  rw [y1, y2, h1, nI_ofNat, if_neg, nI_clamp (by omega)]
  · rfl
  · intro c
    exact c.elim (fun c => absurd c (nI_pos (by omega))) (fun c => c.elim (fun c => absurd c (nI_ge hj (by omega))) (fun c => absurd c (nI_ge (by omega) (by omega))))
theorem p_put_LN (hy : LnAt Y o cap) (h : LN M o cap xs) {j : Nat} (hj : j < xs.length) (v : Int32) : LN (s_X4_put Y M o (nI j) v) o cap (xs.set j v) := by
  rw [p_put hy h hj]
  obtain ⟨h1, h2, h3⟩ := h
  refine ⟨?_, by rw [List.length_set]; exact h2, fun i hi => ?_⟩
  · rw [j_up_o (by omega), List.length_set]; exact h1
  · rw [List.length_set] at hi
    by_cases e : i = j
    · subst e
      rw [j_up_s, List.getElem?_set_self hi]
    · rw [j_up_k e, List.getElem?_set_ne (Ne.symm e)]
      exact h3 i hi
theorem p_put_fr (hy : LnAt Y o cap) (h : LN M o cap xs) {j : Nat} (hj : j < xs.length) (v : Int32) : JFr o (o + 2) M (s_X4_put Y M o (nI j) v) := by
  rw [p_put hy h hj]
  exact JFr.up.mono (by omega) (by omega)
theorem p_push (hy : LnAt Y o cap) (h : LN M o cap xs) (hc : xs.length < cap) (v : Int32) : s_X4_push Y M o v = j_up (j_up M (o + 1) xs.length v) o 1 (nI (xs.length + 1)) := by
  obtain ⟨y1, y2, y3⟩ := hy
  obtain ⟨h1, h2, h3⟩ := h
  unfold s_X4_push
  dsimp only [lt_]
  rw [y1, y2, h1, nI_ofNat, if_neg (fun c => c.elim (fun c => absurd c (nI_pos (by omega))) (fun c => absurd c (nI_ge hc (by omega)))), nI_clamp (by omega), j_up_o (a := o) (by omega), h1, nI_1]
theorem p_push_LN (hy : LnAt Y o cap) (h : LN M o cap xs) (hc : xs.length < cap) (v : Int32) : LN (s_X4_push Y M o v) o cap (xs ++ [v]) := by
  rw [p_push hy h hc]
  obtain ⟨h1, h2, h3⟩ := h
  refine ⟨?_, by simp; omega, fun i hi => ?_⟩
  · rw [j_up_s]; simp
  · rw [j_up_o (by omega)]
    by_cases e : i = xs.length
    · subst e
      rw [j_up_s]; simp
    · rw [j_up_k e]
      have hi2 : i < xs.length := by simp at hi; omega
      rw [List.getElem?_append_left hi2]
      exact h3 i hi2
theorem p_push_fr (hy : LnAt Y o cap) (h : LN M o cap xs) (hc : xs.length < cap) (v : Int32) : JFr o (o + 2) M (s_X4_push Y M o v) := by
  rw [p_push hy h hc]
  exact (JFr.up.mono (by omega) (by omega)).trans (JFr.up.mono (by omega) (by omega))
end LNS

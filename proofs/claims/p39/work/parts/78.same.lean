/-! ===== pure: a document beside itself: each line has itself as partner; the merge is the document ===== -/
def idp : Nat → Nat → List (Nat × Nat)
  | _, 0 => []
  | i, d + 1 => (i, i) :: idp (i + 1) d
theorem idp_app : ∀ (a i b : Nat), idp i a ++ idp (i + a) b = idp i (a + b) := by
  intro a
  induction a with
  | zero => intro i b; rw [Nat.zero_add]; rfl
  | succ a ih =>
    intro i b
    have e := ih (i + 1) b
    rw [show i + 1 + a = i + (a + 1) by omega] at e
    show (i, i) :: (idp (i + 1) a ++ idp (i + (a + 1)) b) = _
    rw [e, show a + 1 + b = (a + b) + 1 by omega]
    rfl
theorem idp_one (i : Nat) : idp i 1 = [(i, i)] := rfl
theorem idp_mem : ∀ (d i t : Nat), i ≤ t → t < i + d → (t, t) ∈ idp i d := by
  intro d
  induction d with
  | zero => intro i t h1 h2; omega
  | succ d ih =>
    intro i t h1 h2
    show (t, t) ∈ (i, i) :: idp (i + 1) d
    by_cases e : t = i
    · rw [e]
      exact List.mem_cons_self
    · exact List.mem_cons_of_mem _ (ih (i + 1) t (by omega) (by omega))
theorem l_find_self {xs : List Int32} {i k : Nat} (hk : 0 < k) : l_find xs ((xs[i]?).getD (-1)) i k = some i := by
  obtain ⟨k, rfl⟩ : ∃ z, k = z + 1 := ⟨k - 1, by omega⟩
  unfold l_find
  rw [if_pos rfl]
theorem q_L_self {xs : List Int32} {i1 : Nat} (h : i1 ≤ xs.length) : ∀ (d i : Nat), i1 = i + d → q_L xs xs i1 i1 i i = d := by
  intro d
  induction d with
  | zero => intro i hi; exact q_L_i (by omega)
  | succ d ih =>
    intro i hi
    rw [q_L_eq (by omega) (by omega) h h rfl, ih (i + 1) (by omega)]
theorem q_pairs_self {xs : List Int32} {i1 : Nat} (h : i1 ≤ xs.length) : ∀ (d i : Nat), i1 = i + d → q_pairs xs xs i1 i1 d i i = idp i d := by
  intro d
  induction d with
  | zero => intro i _; rfl
  | succ d ih =>
    intro i hi
    unfold q_pairs idp
    rw [l_find_self (by omega)]
    dsimp only
    rw [q_L_self h (d + 1) i hi, q_L_self h d (i + 1) (by omega), if_pos rfl, ih (i + 1) (by omega)]
theorem l_find_once {xs : List Int32} {i j : Nat} (hi : i < xs.length) (ho : l_once xs ((xs[i]?).getD (-1)) = true) (h : l_find xs ((xs[i]?).getD (-1)) 0 xs.length = some j) : j = i := by
  have hj := l_find_lt h
  have hf := l_find_first h
  unfold l_once at ho
  rw [h] at ho
  simp only [Option.isNone_iff_eq_none] at ho
  have hn := l_find_none ho
  by_cases q1 : i < j
  · exact absurd rfl (hf i (Nat.zero_le _) q1)
  · by_cases q2 : j < i
    · exact absurd rfl (hn i (by omega) (by omega))
    · omega
theorem q_cand_self {xs : List Int32} {i j : Nat} (hi : i < xs.length) (h : q_cand xs xs i = some j) : j = i := by
  unfold q_cand at h
  by_cases q : (l_once xs ((xs[i]?).getD (-1)) && l_once xs ((xs[i]?).getD (-1))) = true
  · rw [if_pos q] at h
    simp only [Bool.and_self] at q
    exact l_find_once hi q h
  · rw [if_neg q] at h
    cases h
theorem q_anch_self {xs : List Int32} {h : Nat → Nat} : ∀ (d i left a0 anc : Nat), i + d ≤ xs.length → a0 ≤ i →
    ∃ a1, (q_anch xs xs (q_cand xs xs) h d i left a0 a0 (idp 0 a0) anc).1 = idp 0 a1 ∧ (q_anch xs xs (q_cand xs xs) h d i left a0 a0 (idp 0 a0) anc).2.2.1 = a1 ∧ (q_anch xs xs (q_cand xs xs) h d i left a0 a0 (idp 0 a0) anc).2.2.2 = a1 ∧ a1 ≤ i + d := by
  intro d
  induction d with
  | zero => intro i left a0 anc hi ha; exact ⟨a0, rfl, rfl, rfl, by omega⟩
  | succ d ih =>
    intro i left a0 anc hi ha
    unfold q_anch
    cases hc : q_cand xs xs i with
    | none =>
      obtain ⟨a1, e1, e2, e3, e4⟩ := ih (i + 1) left a0 anc (by omega) (by omega)
      exact ⟨a1, e1, e2, e3, by omega⟩
    | some j =>
      have e := q_cand_self (by omega) hc
      subst e
      dsimp only
      by_cases q : 0 < left ∧ a0 ≤ j ∧ h j = left
      · rw [if_pos q]
        have eP : idp 0 a0 ++ q_pairs xs xs j j (j - a0) a0 a0 ++ [(j, j)] = idp 0 (j + 1) := by
          have p1 := q_pairs_self (xs := xs) (i1 := j) (by omega) (j - a0) a0 (by omega)
          have p2 := idp_app a0 0 (j - a0)
          rw [Nat.zero_add] at p2
          have p3 := idp_app j 0 1
          rw [Nat.zero_add, idp_one] at p3
          rw [p1, p2, show a0 + (j - a0) = j by omega, p3]
        rw [eP]
        obtain ⟨a1, e1, e2, e3, e4⟩ := ih (j + 1) (left - 1) (j + 1) (anc + 1) (by omega) (Nat.le_refl _)
        exact ⟨a1, e1, e2, e3, by omega⟩
      · rw [if_neg q]
        obtain ⟨a1, e1, e2, e3, e4⟩ := ih (j + 1) left a0 anc (by omega) (by omega)
        exact ⟨a1, e1, e2, e3, by omega⟩
theorem q_align_self (xs : List Int32) (w : Bool) : (q_align xs xs w).1 = idp 0 xs.length := by
  unfold q_align
  cases w with
  | false =>
    rw [if_neg (by decide)]
    exact q_pairs_self (Nat.le_refl _) xs.length 0 (by omega)
  | true =>
    rw [if_pos rfl]
    obtain ⟨a1, e1, e2, e3, e4⟩ := q_anch_self (xs := xs) (h := q_chains (q_cand xs xs) xs.length xs.length) xs.length 0 (q_most (q_cand xs xs) xs.length xs.length) 0 0 (by omega) (Nat.le_refl _)
    have e0 : (idp 0 0 : List (Nat × Nat)) = [] := rfl
    rw [e0] at e1 e2 e3
    dsimp only
    rw [e1, e2, e3, q_pairs_self (Nat.le_refl _) (xs.length - a1) a1 (by omega)]
    have p2 := idp_app a1 0 (xs.length - a1)
    rw [Nat.zero_add] at p2
    rw [p2, show a1 + (xs.length - a1) = xs.length by omega]
theorem lk_self {xs : List Int32} {w : Bool} {i : Nat} (hi : i < xs.length) : lk (q_align xs xs w).1 i = some i := by
  rw [lk_mem (q_align_ok xs xs w).1, q_align_self]
  exact idp_mem _ _ _ (Nat.zero_le _) (by omega)
theorem q_reg_nil {bs ls rs : List Int32} {sh : Bool} {i j k : Nat} : q_reg bs ls rs sh i i j j k k = [] := by
  unfold q_reg
  rw [if_pos ⟨rfl, rfl, rfl⟩]
theorem q_mg_self {xs : List Int32} {sh : Bool} {pl : Nat → Option Nat} (hp : ∀ i, i < xs.length → pl i = some i) : ∀ (d i : Nat) (cs : List CK), xs.length = i + d → (i = 0 ∧ cs = []) ∨ (0 < i ∧ cs = [(0, 0, i, 0, i, 0, i)]) →
    q_mg xs xs xs sh pl pl d i i i i cs = ((if xs.length = 0 then [] else [(0, 0, xs.length, 0, xs.length, 0, xs.length)]), xs.length, xs.length, xs.length) := by
  intro d
  induction d with
  | zero =>
    intro i cs hi hc
    unfold q_mg
    rw [show xs.length = i by omega]
    rcases hc with ⟨h0, rfl⟩ | ⟨h0, rfl⟩
    · rw [if_pos h0]
    · rw [if_neg (by omega)]
  | succ d ih =>
    intro i cs hi hc
    unfold q_mg
    rw [hp i (by omega)]
    dsimp only
    rw [q_reg_nil, List.append_nil]
    refine ih (i + 1) _ (by omega) (Or.inr ⟨by omega, ?_⟩)
    rcases hc with ⟨rfl, rfl⟩ | ⟨h0, rfl⟩
    · exact q_stab_nil
    · have e := q_stab_0 (cs := []) (c := (0, 0, i, 0, i, 0, i)) (i := i) (j := i) (k := i) rfl
      rw [List.nil_append] at e
      exact e
theorem q_mgs_self (xs : List Int32) (w sh : Bool) : q_mgs xs xs xs w sh = if xs.length = 0 then [] else [(0, 0, xs.length, 0, xs.length, 0, xs.length)] := by
  have hp : ∀ i, i < xs.length → lk (q_align xs xs w).1 i = some i := fun i hi => lk_self hi
  have e := q_mg_self (xs := xs) (sh := sh) hp xs.length 0 [] (by omega) (Or.inl ⟨rfl, rfl⟩)
  unfold q_mgs q_merge
  rw [e]
  dsimp only
  rw [q_reg_nil, List.append_nil]
theorem k_res_self (xs : List Int32) (w sh : Bool) : (k_res xs xs xs (fun _ => -1) 0 (q_mgs xs xs xs w sh)).length = xs.length ∧ (k_cr 0 (q_mgs xs xs xs w sh)).length = 0 := by
  rw [q_mgs_self]
  by_cases h : xs.length = 0
  · rw [if_pos h]
    exact ⟨h.symm, rfl⟩
  · rw [if_neg h]
    refine ⟨?_, rfl⟩
    show (k_out xs xs xs (0, 0, xs.length, 0, xs.length, 0, xs.length) (-1) ++ []).length = _
    rw [List.append_nil]
    unfold k_out
    exact l_seg_len (Nat.le_refl _)

/-! ===== pure: alignments are increasing; differences and steps ===== -/
def PS (P : List (Nat × Nat)) : Prop := List.Pairwise (fun p q : Nat × Nat => p.1 < q.1 ∧ p.2 < q.2) P
theorem q_pairs_PS {xs ys : List Int32} {i1 j1 : Nat} : ∀ (d i j : Nat), j ≤ j1 → PS (q_pairs xs ys i1 j1 d i j) := by
  intro d
  induction d with
  | zero => intro i j _; exact List.Pairwise.nil
  | succ d ih =>
    intro i j hj
    unfold q_pairs
    split
    · exact ih (i + 1) j hj
    · rename_i k hk
      have hk2 := l_find_lt hk
      split
      · refine List.Pairwise.cons (fun p hp => ?_) (ih (i + 1) (k + 1) (by omega))
        have := q_pairs_b d (i + 1) (k + 1) (by omega) p hp
        dsimp only
        omega
      · exact ih (i + 1) j hj
theorem PS.app {P Q : List (Nat × Nat)} (h1 : PS P) (h2 : PS Q) (h : ∀ p ∈ P, ∀ q ∈ Q, p.1 < q.1 ∧ p.2 < q.2) : PS (P ++ Q) := List.pairwise_append.mpr ⟨h1, h2, h⟩
theorem q_anch_ok {xs ys : List Int32} {c : Nat → Option Nat} {h : Nat → Nat} {m : Nat} (hc9 : ∀ i j, c i = some j → j < m) : ∀ (d i left a0 b0 : Nat) (P : List (Nat × Nat)) (anc : Nat), PS P → PB P a0 b0 → a0 ≤ i → b0 ≤ m →
    PS (q_anch xs ys c h d i left a0 b0 P anc).1 ∧ PB (q_anch xs ys c h d i left a0 b0 P anc).1 (q_anch xs ys c h d i left a0 b0 P anc).2.2.1 (q_anch xs ys c h d i left a0 b0 P anc).2.2.2 ∧ (q_anch xs ys c h d i left a0 b0 P anc).2.2.1 ≤ i + d ∧ (q_anch xs ys c h d i left a0 b0 P anc).2.2.2 ≤ m := by
  intro d
  induction d with
  | zero =>
    intro i left a0 b0 P anc hS hB ha hb
    exact ⟨hS, hB, ha, hb⟩
  | succ d ih =>
    intro i left a0 b0 P anc hS hB ha hb
    unfold q_anch
    rw [show i + (d + 1) = i + 1 + d by omega]
    cases hci : c i with
    | none => exact ih (i + 1) left a0 b0 P anc hS hB (by omega) hb
    | some j =>
      have hj := hc9 i j hci
      dsimp only
      by_cases q : 0 < left ∧ b0 ≤ j ∧ h i = left
      · rw [if_pos q]
        have hB1 := q_pairs_PB (xs := xs) (ys := ys) hB ha q.2.1
        have hS1 : PS (P ++ q_pairs xs ys i j (i - a0) a0 b0) := hS.app (q_pairs_PS _ _ _ q.2.1) (fun p hp r hr => by
          have h1 := hB p hp
          have h2 := q_pairs_b (i - a0) a0 b0 q.2.1 r hr
          omega)
        refine ih (i + 1) (left - 1) (i + 1) (j + 1) _ _ (hS1.app (List.pairwise_singleton _ _) (fun p hp r hr => ?_)) ((hB1.mono (by omega) (by omega)).app (fun p hp => by rw [List.mem_singleton.mp hp]; exact ⟨Nat.lt_succ_self _, Nat.lt_succ_self _⟩)) (Nat.le_refl _) hj
        rw [List.mem_singleton.mp hr]
        exact hB1 p hp
      · rw [if_neg q]
        exact ih (i + 1) left a0 b0 P anc hS hB (by omega) hb
theorem q_align_ok (xs ys : List Int32) (w : Bool) : PS (q_align xs ys w).1 ∧ PB (q_align xs ys w).1 xs.length ys.length := by
  unfold q_align
  cases w with
  | false =>
    rw [if_neg (by decide)]
    refine ⟨q_pairs_PS _ _ _ (Nat.zero_le _), fun p hp => ?_⟩
    have := q_pairs_b xs.length 0 0 (Nat.zero_le _) p hp
    omega
  | true =>
    rw [if_pos rfl]
    obtain ⟨r, hr9⟩ : ∃ z, z = q_anch xs ys (q_cand xs ys) (q_chains (q_cand xs ys) xs.length xs.length) xs.length 0 (q_most (q_cand xs ys) xs.length xs.length) 0 0 [] 0 := ⟨_, rfl⟩
    have h := q_anch_ok (xs := xs) (ys := ys) (c := q_cand xs ys) (h := q_chains (q_cand xs ys) xs.length xs.length) (m := ys.length) (fun i j hj => q_cand_lt hj) xs.length 0 (q_most (q_cand xs ys) xs.length xs.length) 0 0 [] 0 List.Pairwise.nil (fun p hp => absurd hp List.not_mem_nil) (Nat.le_refl _) (Nat.zero_le _)
    rw [← hr9] at h ⊢
    obtain ⟨h1, h2, h3, h4⟩ := h
    refine ⟨h1.app (q_pairs_PS _ _ _ h4) (fun p hp r hr => ?_), q_pairs_PB h2 (by omega) h4⟩
    have a1 := h2 p hp
    have a2 := q_pairs_b _ _ _ h4 r hr
    omega
theorem lk_mem {P : List (Nat × Nat)} (h : PS P) {i j : Nat} : lk P i = some j ↔ (i, j) ∈ P := by
  induction P with
  | nil => simp [lk]
  | cons p P ih =>
    have h1 := List.pairwise_cons.mp h
    have ih := ih h1.2
    by_cases e : p.1 = i
    · have e1 : lk (p :: P) i = some p.2 := by
        unfold lk
        rw [List.find?_cons_of_pos (by simpa using e)]
        rfl
      rw [e1, List.mem_cons]
      constructor
      · intro q
        left
        rw [← e, ← Option.some.inj q]
      · intro q
        rcases q with q | q
        · rw [← q]
        · have := h1.1 _ q
          dsimp only at this
          omega
    · have e1 : lk (p :: P) i = lk P i := by
        unfold lk
        rw [List.find?_cons_of_neg (by simpa using e)]
      rw [e1, ih, List.mem_cons]
      constructor
      · intro q; exact Or.inr q
      · intro q
        rcases q with q | q
        · exact absurd (by rw [← q]) e
        · exact q
/-- partners within bounds, increasing -/
def PM (pt : Nat → Option Nat) (n m : Nat) : Prop := (∀ i j, pt i = some j → i < n ∧ j < m) ∧ ∀ i i' j j', i < i' → pt i = some j → pt i' = some j' → j < j'
theorem lk_PM {P : List (Nat × Nat)} {n m : Nat} (h : PS P) (hb : PB P n m) : PM (lk P) n m := by
  refine ⟨fun i j hj => hb _ ((lk_mem h).mp hj), fun i i' j j' hi h1 h2 => ?_⟩
  have a1 := (lk_mem h).mp h1
  have a2 := (lk_mem h).mp h2
  apply Classical.byContradiction
  intro hn
  have key : ∀ (L : List (Nat × Nat)), PS L → (i, j) ∈ L → (i', j') ∈ L → j < j' := by
    intro L
    induction L with
    | nil => intro _ q _; exact absurd q List.not_mem_nil
    | cons p L ih =>
      intro hp q1 q2
      have hp' := List.pairwise_cons.mp hp
      rcases List.mem_cons.mp q1 with q1 | q1
      · rcases List.mem_cons.mp q2 with q2 | q2
        · rw [← q1] at q2
          have := congrArg Prod.fst q2
          dsimp only at this
          omega
        · have := hp'.1 _ q2
          rw [← q1] at this
          exact this.2
      · rcases List.mem_cons.mp q2 with q2 | q2
        · have := hp'.1 _ q1
          rw [← q2] at this
          dsimp only at this
          omega
        · exact ih hp'.2 q1 q2
  exact hn (key P h a1 a2)
/-- differences: where they begin and end -/
def q_d1 (a0 i b0 j : Nat) : List (List Int32) := if a0 = i ∧ b0 = j then [] else [[nI a0, nI i, nI b0, nI j]]
def q_df (pt : Nat → Option Nat) : Nat → Nat → Nat → Nat → List (List Int32) → List (List Int32) × Nat × Nat
  | 0, _, a0, b0, acc => (acc, a0, b0)
  | d + 1, i, a0, b0, acc => match pt i with
    | none => q_df pt d (i + 1) a0 b0 acc
    | some j => q_df pt d (i + 1) (i + 1) (j + 1) (acc ++ q_d1 a0 i b0 j)
def q_diffs (pt : Nat → Option Nat) (n m : Nat) : List (List Int32) := (q_df pt n 0 0 0 []).1 ++ q_d1 (q_df pt n 0 0 0 []).2.1 n (q_df pt n 0 0 0 []).2.2 m
def q_s1 (xs ys : List Int32) (a0 i b0 j : Nat) : List Int32 := (l_seg xs a0 i).map (fun v => 100 + v) ++ (l_seg ys b0 j).map (fun v => 200 + v)
def q_sf (xs ys : List Int32) (pt : Nat → Option Nat) : Nat → Nat → Nat → Nat → List Int32 → List Int32
  | 0, _, a0, b0, acc => acc ++ q_s1 xs ys a0 xs.length b0 ys.length
  | d + 1, i, a0, b0, acc => match pt i with
    | none => q_sf xs ys pt d (i + 1) a0 b0 acc
    | some j => q_sf xs ys pt d (i + 1) (i + 1) (j + 1) (acc ++ q_s1 xs ys a0 i b0 j ++ [(xs[i]?).getD (-1)])
def q_steps (xs ys : List Int32) (pt : Nat → Option Nat) : List Int32 := q_sf xs ys pt xs.length 0 0 0 []
theorem q_df_len {pt : Nat → Option Nat} : ∀ (d i a0 b0 : Nat) (acc : List (List Int32)), (q_df pt d i a0 b0 acc).1.length ≤ acc.length + d := by
  intro d
  induction d with
  | zero => intro i a0 b0 acc; exact Nat.le_refl _
  | succ d ih =>
    intro i a0 b0 acc
    unfold q_df
    split
    · have := ih (i + 1) a0 b0 acc
      omega
    · rename_i j hj
      have := ih (i + 1) (i + 1) (j + 1) (acc ++ q_d1 a0 i b0 j)
      have h2 : (q_d1 a0 i b0 j).length ≤ 1 := by unfold q_d1; split <;> simp
      rw [List.length_append] at this
      omega
theorem q_d1_len {a0 i b0 j : Nat} : (q_d1 a0 i b0 j).length ≤ 1 := by unfold q_d1; split <;> simp
theorem q_diffs_len {pt : Nat → Option Nat} {n m : Nat} : (q_diffs pt n m).length ≤ n + 1 := by
  unfold q_diffs
  rw [List.length_append]
  have h1 := q_df_len (pt := pt) n 0 0 0 []
  have h2 := q_d1_len (a0 := (q_df pt n 0 0 0 []).2.1) (i := n) (b0 := (q_df pt n 0 0 0 []).2.2) (j := m)
  simp only [List.length_nil] at h1
  omega

/-! ===== pure: merges; the walk over the base ===== -/
def q_stab (cs : List CK) (i j k : Nat) : List CK := match cs.getLast? with
  | some c => if c.1 = 0 then cs.dropLast ++ [(0, c.2.1, i + 1, c.2.2.2.1, j + 1, c.2.2.2.2.2.1, k + 1)] else cs ++ [(0, i, i + 1, j, j + 1, k, k + 1)]
  | none => [(0, i, i + 1, j, j + 1, k, k + 1)]
theorem q_stab_nil {i j k : Nat} : q_stab [] i j k = [(0, i, i + 1, j, j + 1, k, k + 1)] := rfl
theorem q_stab_0 {cs : List CK} {c : CK} {i j k : Nat} (h : c.1 = 0) : q_stab (cs ++ [c]) i j k = cs ++ [(0, c.2.1, i + 1, c.2.2.2.1, j + 1, c.2.2.2.2.2.1, k + 1)] := by
  unfold q_stab
  rw [List.getLast?_concat]
  show (if c.1 = 0 then _ else _) = _
  rw [if_pos h, List.dropLast_concat]
theorem q_stab_n {cs : List CK} {c : CK} {i j k : Nat} (h : ¬ c.1 = 0) : q_stab (cs ++ [c]) i j k = (cs ++ [c]) ++ [(0, i, i + 1, j, j + 1, k, k + 1)] := by
  unfold q_stab
  rw [List.getLast?_concat]
  show (if c.1 = 0 then _ else _) = _
  rw [if_neg h]
theorem l_end {α : Type} (l : List α) : l = [] ∨ ∃ ds c, l = ds ++ [c] := by
  induction l with
  | nil => exact Or.inl rfl
  | cons a l ih =>
    right
    rcases ih with h | ⟨ds, c, h⟩
    · exact ⟨[], a, by rw [h]; rfl⟩
    · exact ⟨a :: ds, c, by rw [h]; rfl⟩
def q_mg (bs ls rs : List Int32) (sh : Bool) (pl pr : Nat → Option Nat) : Nat → Nat → Nat → Nat → Nat → List CK → List CK × Nat × Nat × Nat
  | 0, _, i0, j0, k0, cs => (cs, i0, j0, k0)
  | d + 1, i, i0, j0, k0, cs => match pl i, pr i with
    | some j, some k => q_mg bs ls rs sh pl pr d (i + 1) (i + 1) (j + 1) (k + 1) (q_stab (cs ++ q_reg bs ls rs sh i0 i j0 j k0 k) i j k)
    | _, _ => q_mg bs ls rs sh pl pr d (i + 1) i0 j0 k0 cs
def q_merge (bs ls rs : List Int32) (sh : Bool) (pl pr : Nat → Option Nat) : List CK :=
  (q_mg bs ls rs sh pl pr bs.length 0 0 0 0 []).1 ++ q_reg bs ls rs sh (q_mg bs ls rs sh pl pr bs.length 0 0 0 0 []).2.1 bs.length (q_mg bs ls rs sh pl pr bs.length 0 0 0 0 []).2.2.1 ls.length (q_mg bs ls rs sh pl pr bs.length 0 0 0 0 []).2.2.2 rs.length
def CV (n m r : Nat) (c : CK) : Prop := c.1 < 5 ∧ (c.2.1 ≤ c.2.2.1 ∧ c.2.2.1 ≤ n) ∧ (c.2.2.2.1 ≤ c.2.2.2.2.1 ∧ c.2.2.2.2.1 ≤ m) ∧ (c.2.2.2.2.2.1 ≤ c.2.2.2.2.2.2 ∧ c.2.2.2.2.2.2 ≤ r)
def k_sz : List CK → Nat
  | [] => 0
  | c :: cs => (c.2.2.1 - c.2.1) + (c.2.2.2.2.1 - c.2.2.2.1) + (c.2.2.2.2.2.2 - c.2.2.2.2.2.1) + k_sz cs
theorem k_sz_c {c : CK} {cs : List CK} : k_sz (c :: cs) = (c.2.2.1 - c.2.1) + (c.2.2.2.2.1 - c.2.2.2.1) + (c.2.2.2.2.2.2 - c.2.2.2.2.2.1) + k_sz cs := rfl
theorem k_sz_n : k_sz [] = 0 := rfl
theorem k_sz_app (cs ds : List CK) : k_sz (cs ++ ds) = k_sz cs + k_sz ds := by
  induction cs with
  | nil => simp [k_sz]
  | cons c cs ih =>
    rw [List.cons_append, k_sz_c, k_sz_c, ih]
    omega
/-- chunks one behind another up to i, j, k -/
def CH (n m r : Nat) (cs : List CK) (i j k : Nat) : Prop := (∀ c ∈ cs, CV n m r c) ∧ k_sz cs = i + j + k ∧ (∀ ds c, cs = ds ++ [c] → c.2.2.1 = i ∧ c.2.2.2.2.1 = j ∧ c.2.2.2.2.2.2 = k)
section MGW
variable {bs ls rs : List Int32} {sh : Bool} {i0 i1 j0 j1 k0 k1 n m r : Nat} {pl pr : Nat → Option Nat} {cs : List CK}
theorem q_cf_ok {h t : Nat} (hi : i0 ≤ i1 ∧ i1 ≤ n) (hj : j0 + h + t ≤ j1 ∧ j1 ≤ m) (hk : k0 + h + t ≤ k1 ∧ k1 ≤ r) : (∀ c ∈ q_cf h t i0 i1 j0 j1 k0 k1, CV n m r c ∧ c.1 ≠ 0) ∧ k_sz (q_cf h t i0 i1 j0 j1 k0 k1) = (i1 - i0) + (j1 - j0) + (k1 - k0) ∧
    ∃ ds c, q_cf h t i0 i1 j0 j1 k0 k1 = ds ++ [c] ∧ c.2.2.1 = i1 ∧ c.2.2.2.2.1 = j1 ∧ c.2.2.2.2.2.2 = k1 := by
  have v1 : CV n m r (3, i0, i0, j0, j0 + h, k0, k0 + h) := ⟨by dsimp only; omega, by dsimp only; omega, by dsimp only; omega, by dsimp only; omega⟩
  have v2 : CV n m r (4, i0, i1, j0 + h, j1 - t, k0 + h, k1 - t) := ⟨by dsimp only; omega, by dsimp only; omega, by dsimp only; omega, by dsimp only; omega⟩
  have v3 : CV n m r (3, i1, i1, j1 - t, j1, k1 - t, k1) := ⟨by dsimp only; omega, by dsimp only; omega, by dsimp only; omega, by dsimp only; omega⟩
  have n4 : (4 : Nat) ≠ 0 := by decide
  have n3 : (3 : Nat) ≠ 0 := by decide
  unfold q_cf
  by_cases q1 : h = 0
  · rw [if_pos q1]
    by_cases q2 : t = 0
    · rw [if_pos q2]
      refine ⟨fun c hc => ?_, ?_, [], _, rfl, rfl, by dsimp only; omega, by dsimp only; omega⟩
      · rw [List.nil_append, List.mem_singleton] at hc
        rw [hc]
        exact ⟨v2, n4⟩
      · rw [List.nil_append]
        simp only [k_sz_c, k_sz_n]
        omega
    · rw [if_neg q2]
      refine ⟨fun c hc => ?_, ?_, [_], _, rfl, rfl, rfl, rfl⟩
      · rw [List.nil_append] at hc
        rcases List.mem_cons.mp hc with hc | hc
        · rw [hc]; exact ⟨v2, n4⟩
        · rw [List.mem_singleton.mp hc]; exact ⟨v3, n3⟩
      · rw [List.nil_append]
        simp only [k_sz_c, k_sz_n]
        omega
  · rw [if_neg q1]
    by_cases q2 : t = 0
    · rw [if_pos q2]
      refine ⟨fun c hc => ?_, ?_, [_], _, rfl, rfl, by dsimp only; omega, by dsimp only; omega⟩
      · rcases List.mem_append.mp hc with hc | hc
        · rw [List.mem_singleton.mp hc]; exact ⟨v1, n3⟩
        · rw [List.mem_singleton.mp hc]; exact ⟨v2, n4⟩
      · rw [k_sz_app]
        simp only [k_sz_c, k_sz_n]
        omega
    · rw [if_neg q2]
      refine ⟨fun c hc => ?_, ?_, [_, _], _, rfl, rfl, rfl, rfl⟩
      · rcases List.mem_append.mp hc with hc | hc
        · rw [List.mem_singleton.mp hc]; exact ⟨v1, n3⟩
        · rcases List.mem_cons.mp hc with hc | hc
          · rw [hc]; exact ⟨v2, n4⟩
          · rw [List.mem_singleton.mp hc]; exact ⟨v3, n3⟩
      · rw [k_sz_app]
        simp only [k_sz_c, k_sz_n]
        omega
theorem q_reg_ok (hi : i0 ≤ i1 ∧ i1 ≤ n) (hj : j0 ≤ j1 ∧ j1 ≤ m) (hk : k0 ≤ k1 ∧ k1 ≤ r) : (∀ c ∈ q_reg bs ls rs sh i0 i1 j0 j1 k0 k1, CV n m r c ∧ c.1 ≠ 0) ∧ k_sz (q_reg bs ls rs sh i0 i1 j0 j1 k0 k1) = (i1 - i0) + (j1 - j0) + (k1 - k0) ∧
    ((q_reg bs ls rs sh i0 i1 j0 j1 k0 k1 = [] ∧ i0 = i1 ∧ j0 = j1 ∧ k0 = k1) ∨ ∃ ds c, q_reg bs ls rs sh i0 i1 j0 j1 k0 k1 = ds ++ [c] ∧ c.2.2.1 = i1 ∧ c.2.2.2.2.1 = j1 ∧ c.2.2.2.2.2.2 = k1) ∧ (k_cr 0 (q_reg bs ls rs sh i0 i1 j0 j1 k0 k1)).length ≤ 1 := by
  unfold q_reg
  by_cases q : i0 = i1 ∧ j0 = j1 ∧ k0 = k1
  · rw [if_pos q]
    refine ⟨fun c hc => absurd hc List.not_mem_nil, ?_, Or.inl ⟨rfl, q⟩, by decide⟩
    rw [k_sz_n]
    omega
  · rw [if_neg q]
    by_cases q2 : q_kind bs ls rs i0 i1 j0 j1 k0 k1 = 4
    · rw [if_pos q2]
      unfold q_conf
      obtain ⟨h, hh⟩ : ∃ z, z = q_head ls rs sh j0 j1 k0 k1 := ⟨_, rfl⟩
      have hh2 : h ≤ min (j1 - j0) (k1 - k0) := by
        rw [hh]
        unfold q_head
        split
        · exact q_hd_le _ _ _
        · exact Nat.zero_le _
      rw [← hh]
      obtain ⟨t, ht⟩ : ∃ z, z = q_tail ls rs sh (j0 + h) j1 (k0 + h) k1 := ⟨_, rfl⟩
      have ht2 : t ≤ min (j1 - (j0 + h)) (k1 - (k0 + h)) := by
        rw [ht]
        unfold q_tail
        split
        · exact q_tl_le _ _ _
        · exact Nat.zero_le _
      rw [← ht]
      obtain ⟨a1, a2, a3⟩ := q_cf_ok (h := h) (t := t) hi (show j0 + h + t ≤ j1 ∧ j1 ≤ m by omega) (show k0 + h + t ≤ k1 ∧ k1 ≤ r by omega)
      refine ⟨a1, a2, Or.inr a3, ?_⟩
      rw [k_cr_cf]
      exact Nat.le_refl _
    · rw [if_neg q2]
      have hl := q_kind_le (v := q_kind bs ls rs i0 i1 j0 j1 k0 k1) rfl
      refine ⟨fun c hc => ?_, ?_, Or.inr ⟨[], _, rfl, rfl, rfl, rfl⟩, ?_⟩
      · rw [List.mem_singleton.mp hc]
        refine ⟨⟨hl, hi, hj, hk⟩, ?_⟩
        show ¬ q_kind bs ls rs i0 i1 j0 j1 k0 k1 = 0
        unfold q_kind
        split
        · decide
        · split
          · decide
          · split <;> decide
      · simp only [k_sz_c, k_sz_n]
        omega
      · exact Nat.le_trans (k_cr_len _ _) (Nat.le_refl _)
theorem CH.reg (h : CH n m r cs i0 j0 k0) (hi : i0 ≤ i1 ∧ i1 ≤ n) (hj : j0 ≤ j1 ∧ j1 ≤ m) (hk : k0 ≤ k1 ∧ k1 ≤ r) : CH n m r (cs ++ q_reg bs ls rs sh i0 i1 j0 j1 k0 k1) i1 j1 k1 := by
  obtain ⟨a1, a2, a3, -⟩ := q_reg_ok (bs := bs) (ls := ls) (rs := rs) (sh := sh) hi hj hk
  obtain ⟨h1, h2, h3⟩ := h
  refine ⟨fun c hc => (List.mem_append.mp hc).elim (h1 c) (fun hc => (a1 c hc).1), ?_, ?_⟩
  · clear a3
    rw [k_sz_app, a2, h2]
    omega
  · intro ds c e
    rcases a3 with ⟨b1, b2, b3, b4⟩ | ⟨es, c', b1, b2⟩
    · rw [b1, List.append_nil] at e
      have := h3 ds c e
      omega
    · rw [b1, ← List.append_assoc] at e
      have := (List.append_inj' e rfl).2
      have e2 := List.singleton_inj.mp this
      rw [← e2]
      exact b2
theorem CH.stab (h : CH n m r cs i1 j1 k1) (hi : i1 < n) (hj : j1 < m) (hk : k1 < r) : CH n m r (q_stab cs i1 j1 k1) (i1 + 1) (j1 + 1) (k1 + 1) := by
  obtain ⟨h1, h2, h3⟩ := h
  have v : CV n m r (0, i1, i1 + 1, j1, j1 + 1, k1, k1 + 1) := ⟨by dsimp only; omega, by dsimp only; omega, by dsimp only; omega, by dsimp only; omega⟩
  rcases l_end cs with e | ⟨ds, c, e⟩
  · subst e
    rw [q_stab_nil]
    refine ⟨fun c hc => by rw [List.mem_singleton.mp hc]; exact v, ?_, ?_⟩
    · simp only [k_sz_c, k_sz_n] at h2 ⊢
      omega
    · intro ds c e
      have := (List.append_inj' (show ([] : List CK) ++ [_] = ds ++ [c] from e) rfl).2
      rw [← List.singleton_inj.mp this]
      exact ⟨rfl, rfl, rfl⟩
  · subst e
    have h4 := h3 ds c rfl
    have hc9 := h1 c (List.mem_append.mpr (Or.inr (List.mem_singleton.mpr rfl)))
    by_cases q : c.1 = 0
    · rw [q_stab_0 q]
      obtain ⟨c1, c2, c3, c4⟩ := hc9
      refine ⟨fun c' hc => ?_, ?_, ?_⟩
      · rcases List.mem_append.mp hc with hc | hc
        · exact h1 c' (List.mem_append.mpr (Or.inl hc))
        · rw [List.mem_singleton.mp hc]
          exact ⟨by dsimp only; omega, by dsimp only; omega, by dsimp only; omega, by dsimp only; omega⟩
      · rw [k_sz_app] at h2 ⊢
        simp only [k_sz_c, k_sz_n] at h2 ⊢
        omega
      · intro ds' c' e
        have := (List.append_inj' e rfl).2
        rw [← List.singleton_inj.mp this]
        exact ⟨rfl, rfl, rfl⟩
    · rw [q_stab_n q]
      refine ⟨fun c' hc => ?_, ?_, ?_⟩
      · rcases List.mem_append.mp hc with hc | hc
        · exact h1 c' hc
        · rw [List.mem_singleton.mp hc]
          exact v
      · rw [k_sz_app, h2]
        simp only [k_sz_c, k_sz_n]
        omega
      · intro ds' c' e
        have := (List.append_inj' e rfl).2
        rw [← List.singleton_inj.mp this]
        exact ⟨rfl, rfl, rfl⟩
theorem q_stab_cr {i j k : Nat} : k_cr 0 (q_stab cs i j k) = k_cr 0 cs := by
  rcases l_end cs with e | ⟨ds, c, e⟩
  · subst e
    rfl
  · subst e
    by_cases q : c.1 = 0
    · rw [q_stab_0 q, k_cr_app, k_cr_app, k_cr_c, k_cr_c, if_neg (show ¬ (0 : Nat) = 4 by decide), if_neg (by rw [q]; decide)]
    · rw [q_stab_n q, k_cr_app]
      exact List.append_nil _
theorem q_stab_len {i j k : Nat} : (q_stab cs i j k).length ≤ cs.length + 1 := by
  rcases l_end cs with e | ⟨ds, c, e⟩
  · subst e
    exact Nat.le_refl _
  · subst e
    by_cases q : c.1 = 0
    · rw [q_stab_0 q]
      simp
    · rw [q_stab_n q]
      simp
theorem k_cr_shift : ∀ (cs : List CK) (a : Nat), (k_cr a cs).length = (k_cr 0 cs).length := by
  intro cs
  induction cs with
  | nil => intro a; rfl
  | cons c cs ih =>
    intro a
    rw [k_cr_c, k_cr_c]
    have h1 := ih (a + 1)
    have h2 := ih (0 + 1)
    split
    · simp [h1, h2]
    · rw [h1, h2]
/-- what the walk keeps -/
def MI (n m r : Nat) (cs : List CK) (i i0 j0 k0 : Nat) : Prop := CH n m r cs i0 j0 k0 ∧ i0 ≤ i ∧ j0 ≤ m ∧ k0 ≤ r ∧ cs.length ≤ 4 * i ∧ (k_cr 0 cs).length ≤ i
theorem MI.next (hpl : PM pl n m) (hpr : PM pr n r) {i j k : Nat} (h : MI n m r cs i i0 j0 k0) (hn : i < n) (h1 : pl i = some j) (h2 : pr i = some k) (hj : j0 ≤ j) (hk : k0 ≤ k) :
    MI n m r (q_stab (cs ++ q_reg bs ls rs sh i0 i j0 j k0 k) i j k) (i + 1) (i + 1) (j + 1) (k + 1) := by
  obtain ⟨a1, a2, a3, a4, a5, a6⟩ := h
  have b1 := hpl.1 i j h1
  have b2 := hpr.1 i k h2
  have hr := q_reg_len (bs := bs) (ls := ls) (rs := rs) (sh := sh) (i0 := i0) (i1 := i) (j0 := j0) (j1 := j) (k0 := k0) (k1 := k)
  have hs := q_stab_len (cs := cs ++ q_reg bs ls rs sh i0 i j0 j k0 k) (i := i) (j := j) (k := k)
  rw [List.length_append] at hs
  refine ⟨(a1.reg (by omega) (by omega) (by omega)).stab (by omega) (by omega) (by omega), Nat.le_refl _, by omega, by omega, by omega, ?_⟩
  rw [q_stab_cr, k_cr_app, List.length_append, k_cr_shift _ (0 + _)]
  have := (q_reg_ok (bs := bs) (ls := ls) (rs := rs) (sh := sh) (n := n) (m := m) (r := r) (show i0 ≤ i ∧ i ≤ n by omega) (show j0 ≤ j ∧ j ≤ m by omega) (show k0 ≤ k ∧ k ≤ r by omega)).2.2.2
  omega
theorem MI.skip {i : Nat} (h : MI n m r cs i i0 j0 k0) : MI n m r cs (i + 1) i0 j0 k0 := by
  obtain ⟨a1, a2, a3, a4, a5, a6⟩ := h
  exact ⟨a1, by omega, a3, a4, by omega, by omega⟩
theorem MI.zero : MI n m r [] 0 0 0 0 := ⟨⟨fun c hc => absurd hc List.not_mem_nil, rfl, fun ds c e => absurd e.symm (by simp)⟩, Nat.le_refl _, Nat.zero_le _, Nat.zero_le _, Nat.zero_le _, Nat.zero_le _⟩
theorem q_mg_ok (hpl : PM pl n m) (hpr : PM pr n r) : ∀ (d i i0 j0 k0 : Nat) (cs : List CK), n = i + d → MI n m r cs i i0 j0 k0 → (∀ t j, i ≤ t → pl t = some j → j0 ≤ j) → (∀ t k, i ≤ t → pr t = some k → k0 ≤ k) →
    MI n m r (q_mg bs ls rs sh pl pr d i i0 j0 k0 cs).1 n (q_mg bs ls rs sh pl pr d i i0 j0 k0 cs).2.1 (q_mg bs ls rs sh pl pr d i i0 j0 k0 cs).2.2.1 (q_mg bs ls rs sh pl pr d i i0 j0 k0 cs).2.2.2 := by
  intro d
  induction d with
  | zero =>
    intro i i0 j0 k0 cs hi h _ _
    rw [show n = i by omega] at h ⊢
    exact h
  | succ d ih =>
    intro i i0 j0 k0 cs hi h hj hk
    unfold q_mg
    cases h1 : pl i with
    | none => exact ih (i + 1) i0 j0 k0 cs (by omega) h.skip (fun t j a b => hj t j (by omega) b) (fun t k a b => hk t k (by omega) b)
    | some j =>
      cases h2 : pr i with
      | none => exact ih (i + 1) i0 j0 k0 cs (by omega) h.skip (fun t j a b => hj t j (by omega) b) (fun t k a b => hk t k (by omega) b)
      | some k => exact ih (i + 1) (i + 1) (j + 1) (k + 1) _ (by omega) (h.next hpl hpr (by omega) h1 h2 (hj i j (Nat.le_refl _) h1) (hk i k (Nat.le_refl _) h2)) (fun t j' a b => hpl.2 i t j j' (by omega) h1 b) (fun t k' a b => hpr.2 i t k k' (by omega) h2 b)
theorem q_merge_ok (hpl : PM pl bs.length ls.length) (hpr : PM pr bs.length rs.length) : (∀ c ∈ q_merge bs ls rs sh pl pr, CV bs.length ls.length rs.length c) ∧ k_sz (q_merge bs ls rs sh pl pr) = bs.length + ls.length + rs.length ∧ (q_merge bs ls rs sh pl pr).length ≤ 4 * bs.length + 3 ∧ (k_cr 0 (q_merge bs ls rs sh pl pr)).length ≤ bs.length + 1 := by
  have h := q_mg_ok (bs := bs) (ls := ls) (rs := rs) (sh := sh) hpl hpr bs.length 0 0 0 0 [] (by omega) MI.zero (fun _ _ _ _ => Nat.zero_le _) (fun _ _ _ _ => Nat.zero_le _)
  unfold q_merge
  obtain ⟨S, hS⟩ : ∃ z, z = q_mg bs ls rs sh pl pr bs.length 0 0 0 0 [] := ⟨_, rfl⟩
  rw [← hS] at h ⊢
  obtain ⟨a1, a2, a3, a4, a5, a6⟩ := h
  have hr := q_reg_len (bs := bs) (ls := ls) (rs := rs) (sh := sh) (i0 := S.2.1) (i1 := bs.length) (j0 := S.2.2.1) (j1 := ls.length) (k0 := S.2.2.2) (k1 := rs.length)
  have hb := a1.reg (bs := bs) (ls := ls) (rs := rs) (sh := sh) (i1 := bs.length) (j1 := ls.length) (k1 := rs.length) (by omega) (by omega) (by omega)
  have hc := (q_reg_ok (bs := bs) (ls := ls) (rs := rs) (sh := sh) (n := bs.length) (m := ls.length) (r := rs.length) (show S.2.1 ≤ bs.length ∧ bs.length ≤ bs.length by omega) (show S.2.2.1 ≤ ls.length ∧ ls.length ≤ ls.length by omega) (show S.2.2.2 ≤ rs.length ∧ rs.length ≤ rs.length by omega)).2.2.2
  refine ⟨hb.1, hb.2.1, ?_, ?_⟩
  · rw [List.length_append]
    omega
  · rw [k_cr_app, List.length_append, k_cr_shift _ (0 + _)]
    omega
end MGW

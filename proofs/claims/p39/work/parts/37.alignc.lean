/-! ===== pure: the plain alignment, class side ===== -/
def l_of (n : Nat) (f : Nat → Int32) : List Int32 := (List.range n).map f
theorem l_of_len {n : Nat} {f : Nat → Int32} : (l_of n f).length = n := by simp [l_of]
theorem l_of_get {n i : Nat} {f : Nat → Int32} (h : i < n) : (l_of n f)[i]? = some (f i) := by
  unfold l_of
  rw [List.getElem?_map, List.getElem?_range h]
  rfl
theorem l_of_set {n i : Nat} {f : Nat → Int32} {v : Int32} : (l_of n f).set i v = l_of n (f_up f i v) := by
  apply List.ext_getElem?
  intro t
  by_cases ht : t < n
  · rw [l_of_get ht]
    by_cases e : t = i
    · subst e
      rw [List.getElem?_set_self (by rw [l_of_len]; exact ht), f_up_s]
    · rw [List.getElem?_set_ne (Ne.symm e), l_of_get ht, f_up_n e]
  · rw [List.getElem?_eq_none (by rw [List.length_set, l_of_len]; omega), List.getElem?_eq_none (by rw [l_of_len]; omega)]
theorem l_of_congr {n : Nat} {f g : Nat → Int32} (h : ∀ i, i < n → f i = g i) : l_of n f = l_of n g := by
  unfold l_of
  apply List.map_congr_left
  intro i hi
  exact h i (List.mem_range.mp hi)
theorem l_of_at {n i : Nat} {f : Nat → Int32} (h : i < n) (h2 : i < 2 ^ 31) : l_at (l_of n f) (nI i) = f i := by
  rw [l_at_nI h2, l_of_get h]
  rfl
def lk (P : List (Nat × Nat)) (i : Nat) : Option Nat := (P.find? (fun p => p.1 == i)).map (·.2)
def lk2 (P : List (Nat × Nat)) (j : Nat) : Option Nat := (P.find? (fun p => p.2 == j)).map (·.1)
theorem lk_app {P : List (Nat × Nat)} {i k : Nat} (h : ∀ p ∈ P, p.1 ≠ i) : lk (P ++ [(i, k)]) = f_up (lk P) i (some k) := by
  funext t
  unfold lk
  rw [List.find?_append]
  by_cases e : t = i
  · subst e
    have h0 : P.find? (fun p => p.1 == t) = none := by
      rw [List.find?_eq_none]
      intro p hp
      simpa using h p hp
    rw [h0, f_up_s]
    simp
  · rw [f_up_n e]
    have h1 : [(i, k)].find? (fun p => p.1 == t) = none := by
      simp [List.find?_cons, Ne.symm e]
    rw [h1, Option.or_none]
theorem lk2_app {P : List (Nat × Nat)} {i k : Nat} (h : ∀ p ∈ P, p.2 ≠ k) : lk2 (P ++ [(i, k)]) = f_up (lk2 P) k (some i) := by
  funext t
  unfold lk2
  rw [List.find?_append]
  by_cases e : t = k
  · subst e
    have h0 : P.find? (fun p => p.2 == t) = none := by
      rw [List.find?_eq_none]
      intro p hp
      simpa using h p hp
    rw [h0, f_up_s]
    simp
  · rw [f_up_n e]
    have h1 : [(i, k)].find? (fun p => p.2 == t) = none := by
      simp [List.find?_cons, Ne.symm e]
    rw [h1, Option.or_none]
def PB (P : List (Nat × Nat)) (i j : Nat) : Prop := ∀ p ∈ P, p.1 < i ∧ p.2 < j
theorem PB.mono {P : List (Nat × Nat)} {i j i' j' : Nat} (h : PB P i j) (hi : i ≤ i') (hj : j ≤ j') : PB P i' j' := fun p hp => ⟨Nat.lt_of_lt_of_le (h p hp).1 hi, Nat.lt_of_lt_of_le (h p hp).2 hj⟩
theorem PB.app {P Q : List (Nat × Nat)} {i j : Nat} (h1 : PB P i j) (h2 : PB Q i j) : PB (P ++ Q) i j := fun p hp => (List.mem_append.mp hp).elim (h1 p) (h2 p)
theorem q_pairs_b {xs ys : List Int32} {i1 j1 : Nat} : ∀ (d i j : Nat), j ≤ j1 → ∀ p ∈ q_pairs xs ys i1 j1 d i j, (i ≤ p.1 ∧ j ≤ p.2) ∧ p.1 < i + d ∧ p.2 < j1 := by
  intro d
  induction d with
  | zero => intro i j hj p hp; exact absurd hp List.not_mem_nil
  | succ d ih =>
    intro i j hj p hp
    unfold q_pairs at hp
    split at hp
    · have := ih (i + 1) j hj p hp
      omega
    · rename_i k hk
      have hk2 := l_find_lt hk
      split at hp
      · rcases List.mem_cons.mp hp with rfl | hp
        · dsimp only
          omega
        · have := ih (i + 1) (k + 1) (by omega) p hp
          omega
      · have := ih (i + 1) j hj p hp
        omega
def AL (M : JM) (o n m : Nat) (P : List (Nat × Nat)) (anc : Nat) (rs : List (List Int32)) : Prop :=
  LN M (o + 1) 24 (l_of n (fun i => oI (lk P i))) ∧ LN M (o + 3) 24 (l_of m (fun j => oI (lk2 P j))) ∧ M o 5 = nI P.length ∧ M o 6 = nI anc ∧ rs.length = 25 ∧ TB M (o + 9) 625 25 rs
/-- what an alignment's part leaves as it was -/
def AlFr (o : Nat) (M M' : JM) : Prop := ∀ a, (a < o ∨ (o + 5 ≤ a ∧ a < o + 9) ∨ o + 11 ≤ a) → M' a = M a
theorem AlFr.trans {o : Nat} {M M1 M2 : JM} (h1 : AlFr o M M1) (h2 : AlFr o M1 M2) : AlFr o M M2 := fun a h => (h2 a h).trans (h1 a h)
theorem AlFr.of1 {o : Nat} {M M1 : JM} (h : JFr o (o + 5) M M1) : AlFr o M M1 := fun a q => h a (by omega)
theorem AlFr.of2 {o : Nat} {M M1 : JM} (h : JFr (o + 9) (o + 11) M M1) : AlFr o M M1 := fun a q => h a (by omega)
theorem AlFr.fr {o : Nat} {M M1 : JM} (h : AlFr o M M1) : JFr o (o + 11) M M1 := fun a q => h a (by omega)
theorem AlFr.LN {o : Nat} {M M1 : JM} (h : AlFr o M M1) {q cap : Nat} {xs : List Int32} (hx : LN M q cap xs) (hd : q + 2 ≤ o ∨ (o + 5 ≤ q ∧ q + 2 ≤ o + 9) ∨ o + 11 ≤ q) : LN M1 q cap xs := by
  obtain ⟨h1, h2, h3⟩ := hx
  refine ⟨?_, h2, fun i hi => ?_⟩
  · rw [h q (by omega)]; exact h1
  · rw [h (q + 1) (by omega)]; exact h3 i hi
theorem lk_lt {P : List (Nat × Nat)} {i k i1 j1 : Nat} (hb : PB P i1 j1) (h : lk P i = some k) : k < j1 ∧ i < i1 := by
  unfold lk at h
  cases hf : P.find? (fun p => p.1 == i) with
  | none => rw [hf] at h; cases h
  | some p =>
    rw [hf] at h
    have h1 := hb p (List.mem_of_find?_eq_some hf)
    have h2 := List.find?_some hf
    have h3 : p.1 = i := by simpa using h2
    have h4 : p.2 = k := Option.some.inj h
    omega
section ALS
variable {Y : JY} {M : JM} {o : Nat} {xs ys : List Int32} {q1 q4 c1 c4 n m : Nat} {i1 j0 j1 anc : Nat} {P : List (Nat × Nat)} {rs : List (List Int32)}
theorem AL.rows (h : AL M o n m P anc rs) {M' : JM} {rs' : List (List Int32)} (hf : JFr (o + 9) (o + 11) M M') (hl : rs'.length = 25) (hT : TB M' (o + 9) 625 25 rs') : AL M' o n m P anc rs' :=
  ⟨h.1.frame hf (by omega), h.2.1.frame hf (by omega), by rw [hf o (by omega)]; exact h.2.2.1, by rw [hf o (by omega)]; exact h.2.2.2.1, hl, hT⟩
theorem AL.frame (h : AL M o n m P anc rs) {lo hi : Nat} {M' : JM} (hf : JFr lo hi M M') (hd : o + 11 ≤ lo ∨ hi ≤ o) : AL M' o n m P anc rs :=
  ⟨h.1.frame hf (by omega), h.2.1.frame hf (by omega), by rw [hf o (by omega)]; exact h.2.2.1, by rw [hf o (by omega)]; exact h.2.2.2.1, h.2.2.2.2.1, h.2.2.2.2.2.frame hf (by omega)⟩
theorem p_addPair0 (hy : AlAt Y o) (h : AL M o n m P anc rs) {i k : Nat} (hi : i < n) (hk : k < m) (hp : ∀ p ∈ P, p.1 ≠ i ∧ p.2 ≠ k) :
    AL (s_X0_addPair Y M o (nI i) (nI k)) o n m (P ++ [(i, k)]) anc rs ∧ JFr o (o + 5) M (s_X0_addPair Y M o (nI i) (nI k)) := by
  obtain ⟨⟨y0, z0⟩, ⟨y1, z1⟩, -, -, -⟩ := hy
  obtain ⟨h1, h2, h3, h4, h5, h6⟩ := h
  have a1 := p_put_LN z0 h1 (j := i) (by rw [l_of_len]; exact hi) (nI k)
  have f1 := p_put_fr z0 h1 (j := i) (by rw [l_of_len]; exact hi) (nI k)
  have h2' := h2.frame f1 (by omega)
  have a2 := p_put_LN z1 h2' (j := k) (by rw [l_of_len]; exact hk) (nI i)
  have f2 := p_put_fr z1 h2' (j := k) (by rw [l_of_len]; exact hk) (nI i)
  obtain ⟨M2, hM2⟩ : ∃ z, z = s_X4_put Y (s_X4_put Y M (o + 1) (nI i) (nI k)) (o + 3) (nI k) (nI i) := ⟨_, rfl⟩
  have e : s_X0_addPair Y M o (nI i) (nI k) = j_up M2 o 5 (M2 o 5 + 1) := by
    unfold s_X0_addPair
    dsimp only [lt_]
    rw [y0, y1, ← hM2]
  rw [← hM2] at f2 a2
  have f3 : JFr (o + 1) (o + 5) M M2 := (f1.mono (by omega) (by omega)).trans (f2.mono (by omega) (by omega))
  have f4 : JFr o (o + 1) M2 (j_up M2 o 5 (M2 o 5 + 1)) := JFr.up
  rw [l_of_set] at a1 a2
  rw [e]
  refine ⟨⟨?_, ?_, ?_, ?_, h5, (h6.frame f3 (by omega)).frame f4 (by omega)⟩, (f3.mono (by omega) (Nat.le_refl _)).trans (f4.mono (Nat.le_refl _) (by omega))⟩
  · have e1 : (fun t => oI (lk (P ++ [(i, k)]) t)) = f_up (fun t => oI (lk P t)) i (nI k) := by
      rw [lk_app (fun p q => (hp p q).1)]
      funext t
      by_cases e : t = i
      · rw [e, f_up_s, f_up_s]
        rfl
      · rw [f_up_n e, f_up_n e]
    rw [e1]
    exact (a1.frame f2 (by omega)).frame f4 (by omega)
  · have e1 : (fun t => oI (lk2 (P ++ [(i, k)]) t)) = f_up (fun t => oI (lk2 P t)) k (nI i) := by
      rw [lk2_app (fun p q => (hp p q).2)]
      funext t
      by_cases e : t = k
      · rw [e, f_up_s, f_up_s]
        rfl
      · rw [f_up_n e, f_up_n e]
    rw [e1]
    exact a2.frame f4 (by omega)
  · rw [j_up_s, f3 o (by omega), h3, nI_1, List.length_append]
    rfl
  · rw [j_up_k (by decide), f3 o (by omega)]
    exact h4
theorem p_alignPart_loop (hy : AlAt Y o) (hy1 : LnAt Y q1 c1) (hy4 : LnAt Y q4 c4) (hd1 : q1 + 2 ≤ o ∨ o + 11 ≤ q1) (hd4 : q4 + 2 ≤ o ∨ o + 11 ≤ q4) (hi1 : i1 ≤ xs.length) (hj1 : j1 ≤ ys.length) (hx24 : xs.length ≤ 24) (hy24 : ys.length ≤ 24) {i0 : Nat} (hg : QG xs ys i1 j0 j1 rs i0) :
    ∀ (d i j n' : Nat) (M : JM) (P : List (Nat × Nat)), i1 = i + d → d < n' → i0 ≤ i → j0 ≤ j → j ≤ j1 → AL M o xs.length ys.length P anc rs → LN M q1 c1 xs → LN M q4 c4 ys → PB P i j →
      ∃ M', lp_X0_alignPart_1 Y (nI i1) q4 q1 (nI j1) o n' (nI j) (nI i) M = some M' ∧ JFr o (o + 5) M M' ∧ AL M' o xs.length ys.length (P ++ q_pairs xs ys i1 j1 d i j) anc rs := by
  intro d
  have hy' := hy
  obtain ⟨-, -, -, -, ⟨y4, z4⟩⟩ := hy
  induction d with
  | zero =>
    intro i j n' M P hi hn h0 hj0 hj h h1 h4 hb
    obtain ⟨n', rfl⟩ : ∃ z, n' = z + 1 := ⟨n' - 1, by omega⟩
    refine ⟨M, ?_, JFr.refl, by simpa [q_pairs] using h⟩
    unfold lp_X0_alignPart_1
    rw [if_pos (nI_le (by omega) (by omega))]
  | succ d ih =>
    intro i j n' M P hi hn h0 hj0 hj h h1 h4 hb
    obtain ⟨n', rfl⟩ : ∃ z, n' = z + 1 := ⟨n' - 1, by omega⟩
    have hxi : i < xs.length := by omega
    have hfind := p_find hy4 h4 ((xs[i]?).getD (-1)) hj (show j1 < 1000 by omega)
    unfold lp_X0_alignPart_1 q_pairs
    rw [if_neg (nI_ge (by omega) (by omega)), p_at hy1 h1, l_at_nI (by omega), hfind]
    dsimp only [Option.bind]
    cases hf : l_find ys ((xs[i]?).getD (-1)) j (j1 - j) with
    | none =>
      obtain ⟨M', a1, a2, a3⟩ := ih (i + 1) j n' M P (by omega) (by omega) (by omega) hj0 hj h h1 h4 (hb.mono (by omega) (Nat.le_refl _))
      refine ⟨M', ?_, a2, a3⟩
      have e : oI none = (-1 : Int32) := rfl
      rw [e]
      rw [if_pos (Or.inl rfl)]
      dsimp only [lt_]
      rw [nI_1]
      exact a1
    | some k =>
      have hk := l_find_lt hf
      have b1 := q_L_le (xs := xs) (ys := ys) (i1 := i1) (j1 := j1) (i := i + 1) (j := k + 1) hi1
      have b2 := q_L_le (xs := xs) (ys := ys) (i1 := i1) (j1 := j1) (i := i) (j := j) hi1
      have e : oI (some k) = nI k := rfl
      have ec : (nI k = -1 ∨ ¬ (s_X8_at Y M (j_rf Y o 4) (nI i + 1) (nI k + 1) + 1 = s_X8_at Y M (j_rf Y o 4) (nI i) (nI j))) ↔ ¬ (q_L xs ys i1 j1 (i + 1) (k + 1) + 1 = q_L xs ys i1 j1 i j) := by
        rw [y4, nI_1, nI_1, p_tat z4 (by decide) (by decide) h.2.2.2.2.2 (by omega) (by omega), p_tat z4 (by decide) (by decide) h.2.2.2.2.2 (by omega) (by omega), hg (i + 1) (by omega) (by omega) (k + 1) (by omega) (by omega), hg i h0 (by omega) j hj0 hj, nI_1, nI_eq (by omega) (by omega)]
        constructor
        · intro c
          exact c.elim (fun c => absurd c (nI_m1 (by omega))) id
        · intro c
          exact Or.inr c
      rw [e]
      by_cases q : q_L xs ys i1 j1 (i + 1) (k + 1) + 1 = q_L xs ys i1 j1 i j
      · have hne : ∀ p ∈ P, p.1 ≠ i ∧ p.2 ≠ k := fun p hp => by
          have := hb p hp
          omega
        obtain ⟨g1, g2⟩ := p_addPair0 hy' h hxi (show k < ys.length by omega) hne
        obtain ⟨M', a1, a2, a3⟩ := ih (i + 1) (k + 1) n' _ (P ++ [(i, k)]) (by omega) (by omega) (by omega) (by omega) (by omega) g1 (h1.frame g2 (by omega)) (h4.frame g2 (by omega))
          ((hb.mono (by omega) (by omega)).app (fun p hp => by rw [List.mem_singleton.mp hp]; exact ⟨Nat.lt_succ_self _, Nat.lt_succ_self _⟩))
        refine ⟨M', ?_, g2.trans a2, ?_⟩
        · rw [if_neg (fun c => ec.mp c q)]
          dsimp only [lt_]
          rw [nI_1, nI_1]
          exact a1
        · dsimp only
          rw [if_pos q]
          rw [List.append_assoc] at a3
          exact a3
      · obtain ⟨M', a1, a2, a3⟩ := ih (i + 1) j n' M P (by omega) (by omega) (by omega) hj0 hj h h1 h4 (hb.mono (by omega) (Nat.le_refl _))
        refine ⟨M', ?_, a2, ?_⟩
        · rw [if_pos (ec.mpr q)]
          dsimp only [lt_]
          rw [nI_1]
          exact a1
        · dsimp only
          rw [if_neg q]
          exact a3
theorem p_alignPart (hy : AlAt Y o) (hy1 : LnAt Y q1 c1) (hy4 : LnAt Y q4 c4) (hd1 : q1 + 2 ≤ o ∨ o + 11 ≤ q1) (hd4 : q4 + 2 ≤ o ∨ o + 11 ≤ q4) (hi1 : i1 ≤ xs.length) (hj1 : j1 ≤ ys.length) (hx24 : xs.length ≤ 24) (hy24 : ys.length ≤ 24) {i0 : Nat} (hi01 : i0 ≤ i1) (hj01 : j0 ≤ j1)
    (h : AL M o xs.length ys.length P anc rs) (h1 : LN M q1 c1 xs) (h4 : LN M q4 c4 ys) (hb : PB P i0 j0) :
      ∃ M' rs', s_X0_alignPart Y M o q1 (nI i0) (nI i1) q4 (nI j0) (nI j1) = some M' ∧ AlFr o M M' ∧ AL M' o xs.length ys.length (P ++ q_pairs xs ys i1 j1 (i1 - i0) i0 j0) anc rs' := by
  obtain ⟨M1, rs1, a1, a2, a3, a4, a5⟩ := p_measureEnds hy hy1 hy4 hd1 hd4 hi1 hj1 (by omega) (by omega) hj01 hi01 h.2.2.2.2.1 h.2.2.2.2.2 h1 h4
  obtain ⟨M', b1, b2, b3⟩ := p_alignPart_loop hy hy1 hy4 hd1 hd4 hi1 hj1 hx24 hy24 a5 (i1 - i0) i0 j0 j_fuel M1 P (by omega) (j_fuel_gt (by omega)) (Nat.le_refl _) (Nat.le_refl _) hj01 (h.rows a2 a3 a4) (h1.frame a2 (by omega)) (h4.frame a2 (by omega)) hb
  refine ⟨M', rs1, ?_, (AlFr.of2 a2).trans (AlFr.of1 b2), b3⟩
  unfold s_X0_alignPart
  rw [a1]
  dsimp only [Option.bind]
  rw [b1]
end ALS

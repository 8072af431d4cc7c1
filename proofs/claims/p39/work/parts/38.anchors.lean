/-! ===== pure: anchors, class side ===== -/
def q_cand (xs ys : List Int32) (i : Nat) : Option Nat := if l_once xs ((xs[i]?).getD (-1)) && l_once ys ((xs[i]?).getD (-1)) then l_find ys ((xs[i]?).getD (-1)) 0 ys.length else none
theorem q_cand_lt {xs ys : List Int32} {i j : Nat} (h : q_cand xs ys i = some j) : j < ys.length := by
  unfold q_cand at h
  split at h
  · have := l_find_lt h
    omega
  · cases h
def o_gt : Option Nat → Option Nat → Bool
  | none, _ => false
  | some _, none => true
  | some a, some b => decide (b < a)
theorem o_gt_iff {a b : Option Nat} (ha : ∀ j, a = some j → j < 2 ^ 31) (hb : ∀ j, b = some j → j < 2 ^ 31) : oI a ≤ oI b ↔ o_gt a b = false := by
  cases a with
  | none =>
    cases b with
    | none => simp [oI, o_gt]
    | some b =>
      have := hb b rfl
      simp only [oI, o_gt, iff_true]
      rw [Int32.le_iff_toInt_le, nI_toInt this]
      have e : (-1 : Int32).toInt = -1 := by decide
      rw [e]
      omega
  | some a =>
    have h1 := ha a rfl
    cases b with
    | none =>
      simp only [oI, o_gt]
      rw [Int32.le_iff_toInt_le, nI_toInt h1]
      have e : (-1 : Int32).toInt = -1 := by decide
      rw [e]
      constructor
      · intro c; omega
      · intro c; cases c
    | some b =>
      have h2 := hb b rfl
      simp only [oI, o_gt, decide_eq_false_iff_not]
      rw [nI_leI h1 h2]
      omega
def q_bh (c : Nat → Option Nat) (h : Nat → Nat) (i : Nat) : Nat → Nat → Nat → Nat
  | 0, _, acc => acc
  | d + 1, k, acc => q_bh c h i d (k + 1) (if o_gt (c k) (c i) then max acc (h k) else acc)
theorem q_bh_le {c : Nat → Option Nat} {h : Nat → Nat} {i B : Nat} (hh : ∀ k, h k ≤ B) : ∀ (d k acc : Nat), acc ≤ B → q_bh c h i d k acc ≤ B := by
  intro d
  induction d with
  | zero => intro k acc ha; exact ha
  | succ d ih =>
    intro k acc ha
    unfold q_bh
    apply ih
    have := hh k
    split
    · omega
    · exact ha
def q_chains (c : Nat → Option Nat) (n : Nat) : Nat → Nat → Nat
  | 0 => fun _ => 0
  | d + 1 => if (c (n - (d + 1))).isSome then f_up (q_chains c n d) (n - (d + 1)) (q_bh c (q_chains c n d) (n - (d + 1)) d (n - d) 0 + 1) else q_chains c n d
def q_most (c : Nat → Option Nat) (n : Nat) : Nat → Nat
  | 0 => 0
  | d + 1 => if (c (n - (d + 1))).isSome then max (q_most c n d) (q_bh c (q_chains c n d) (n - (d + 1)) d (n - d) 0 + 1) else q_most c n d
theorem q_chains_le {c : Nat → Option Nat} {n : Nat} : ∀ (d k : Nat), q_chains c n d k ≤ d := by
  intro d
  induction d with
  | zero => intro k; exact Nat.le_refl _
  | succ d ih =>
    intro k
    unfold q_chains
    split
    · by_cases e : k = n - (d + 1)
      · rw [e, f_up_s]
        have := q_bh_le (c := c) (i := n - (d + 1)) ih d (n - d) 0 (Nat.zero_le _)
        omega
      · rw [f_up_n e]
        have := ih k
        omega
    · have := ih k
      omega
theorem q_most_le {c : Nat → Option Nat} {n : Nat} : ∀ (d : Nat), q_most c n d ≤ d := by
  intro d
  induction d with
  | zero => exact Nat.le_refl _
  | succ d ih =>
    unfold q_most
    split
    · have := q_bh_le (c := c) (i := n - (d + 1)) (q_chains_le (c := c) (n := n) d) d (n - d) 0 (Nat.zero_le _)
      omega
    · omega
theorem nI_m (n : Nat) : nI n - 1 = nD 0 n := by
  cases n with
  | zero => decide
  | succ n => rw [nI_pd, nD_s, Nat.zero_add]
section ANC
variable {Y : JY} {M : JM} {o : Nat} {xs ys : List Int32} {q1 q2 c1 c2 n : Nat} {c : Nat → Option Nat} {h : Nat → Nat}
theorem p_cand_loop (hy : AlAt Y o) (hy1 : LnAt Y q1 c1) (hy2 : LnAt Y q2 c2) (hd1 : q1 + 2 ≤ o ∨ o + 11 ≤ q1) (hd2 : q2 + 2 ≤ o ∨ o + 11 ≤ q2) (hx24 : xs.length ≤ 24) :
    ∀ (k i n' : Nat) (M : JM), xs.length = i + k → k < n' → LN M q1 c1 xs → LN M q2 c2 ys → LN M (o + 5) 24 (l_of i (fun t => oI (q_cand xs ys t))) →
      ∃ M', lp_X0_findCandidates_1 Y q1 q2 o n' (nI i) M = some M' ∧ JFr (o + 5) (o + 7) M M' ∧ LN M' (o + 5) 24 (l_of xs.length (fun t => oI (q_cand xs ys t))) := by
  obtain ⟨-, -, ⟨y2, z2⟩, -, -⟩ := hy
  intro k
  induction k with
  | zero =>
    intro i n' M hi hn h1 h2 hc
    obtain ⟨n', rfl⟩ : ∃ z, n' = z + 1 := ⟨n' - 1, by omega⟩
    refine ⟨M, ?_, JFr.refl, by rw [show xs.length = i by omega]; exact hc⟩
    unfold lp_X0_findCandidates_1
    rw [p_size h1, if_pos (nI_le (by omega) (by omega))]
  | succ k ih =>
    intro i n' M hi hn h1 h2 hc
    obtain ⟨n', rfl⟩ : ∃ z, n' = z + 1 := ⟨n' - 1, by omega⟩
    have hlen : (l_of i (fun t => oI (q_cand xs ys t))).length < 24 := by rw [l_of_len]; omega
    have a1 := p_push_LN z2 hc hlen (oI (q_cand xs ys i))
    have f1 := p_push_fr z2 hc hlen (oI (q_cand xs ys i))
    have e1 : l_of i (fun t => oI (q_cand xs ys t)) ++ [oI (q_cand xs ys i)] = l_of (i + 1) (fun t => oI (q_cand xs ys t)) := by
      unfold l_of
      rw [List.range_succ, List.map_append]
      rfl
    rw [e1] at a1
    obtain ⟨M', b1, b2, b3⟩ := ih (i + 1) n' _ (by omega) (by omega) (h1.frame f1 (by omega)) (h2.frame f1 (by omega)) a1
    refine ⟨M', ?_, f1.trans b2, b3⟩
    have hk2 := h2.2.1
    have hk3 := hy2.2.2
    unfold lp_X0_findCandidates_1
    rw [p_size h1, if_neg (nI_ge (by omega) (by omega)), p_at hy1 h1, l_at_nI (by omega)]
    dsimp only [lt_]
    rw [p_isOnce hy1 h1, p_isOnce hy2 h2, p_size h2]
    have e0 := p_find hy2 h2 ((xs[i]?).getD (-1)) (b := 0) (e := ys.length) (Nat.zero_le _) (by omega)
    rw [nI_0, Nat.sub_zero] at e0
    rw [e0]
    have e2 : ((if (if l_once xs ((xs[i]?).getD (-1)) then (1 : Int32) else 0) = 0 then some (0 : Int32) else (some (if l_once ys ((xs[i]?).getD (-1)) then (1 : Int32) else 0)).bind fun xx12 => if xx12 = 0 then some (0 : Int32) else some 1).bind fun xx23 => if xx23 = 0 then some (-1 : Int32) else (some (oI (l_find ys ((xs[i]?).getD (-1)) 0 ys.length))).bind fun xx18 => some xx18) = some (oI (q_cand xs ys i)) := by
      unfold q_cand
      cases l_once xs ((xs[i]?).getD (-1)) <;> cases l_once ys ((xs[i]?).getD (-1)) <;> rfl
    have e3 : ∀ (g : Int32 → Option JM), ((some (if l_once xs ((xs[i]?).getD (-1)) then (1 : Int32) else 0)).bind fun xx8 => (if xx8 = 0 then some (0 : Int32) else (some (if l_once ys ((xs[i]?).getD (-1)) then (1 : Int32) else 0)).bind fun xx12 => if xx12 = 0 then some (0 : Int32) else some 1).bind fun xx23 => (if xx23 = 0 then some (-1 : Int32) else (some (oI (l_find ys ((xs[i]?).getD (-1)) 0 ys.length))).bind fun xx18 => some xx18).bind g) = g (oI (q_cand xs ys i)) := by
      intro g
      have e4 := congrArg (fun z => z.bind g) e2
      rw [Option.bind_assoc] at e4
      exact e4
    refine (e3 _).trans ?_
    rw [y2, nI_1]
    exact b1
theorem p_findCandidates (hy : AlAt Y o) (hy1 : LnAt Y q1 c1) (hy2 : LnAt Y q2 c2) (hd1 : q1 + 2 ≤ o ∨ o + 11 ≤ q1) (hd2 : q2 + 2 ≤ o ∨ o + 11 ≤ q2) (hx24 : xs.length ≤ 24) (h1 : LN M q1 c1 xs) (h2 : LN M q2 c2 ys) :
    ∃ M', s_X0_findCandidates Y M o q1 q2 = some M' ∧ JFr (o + 5) (o + 7) M M' ∧ LN M' (o + 5) 24 (l_of xs.length (fun t => oI (q_cand xs ys t))) := by
  have hy' := hy
  obtain ⟨-, -, ⟨y2, z2⟩, -, -⟩ := hy
  have f0 := p_clear_fr (Y := Y) (M := M) (o := o + 5)
  obtain ⟨M', b1, b2, b3⟩ := p_cand_loop hy' hy1 hy2 hd1 hd2 hx24 xs.length 0 j_fuel _ (by omega) (j_fuel_gt (by omega)) (h1.frame f0 (by omega)) (h2.frame f0 (by omega)) (p_clear_LN (Y := Y) (M := M) (o := o + 5) (cap := 24))
  refine ⟨M', ?_, f0.trans b2, b3⟩
  unfold s_X0_findCandidates
  dsimp only [lt_]
  rw [y2]
  rw [nI_0] at b1
  rw [b1]
  rfl
theorem p_chain2 (hy : AlAt Y o) (hn : n ≤ 24) (hc9 : ∀ i j, c i = some j → j < 1000) (hh9 : ∀ k, h k ≤ 100) (hc : LN M (o + 5) 24 (l_of n (fun t => oI (c t)))) (hh : LN M (o + 7) 24 (l_of n (fun t => nI (h t)))) {i : Nat} (hi : i < n) :
    ∀ (d k n' acc : Nat), n = k + d → d < n' → acc ≤ 100 → lp_X0_measureChains_2 Y M o (nI i) n' (nI acc) (nI k) = some (nI (q_bh c h i d k acc)) := by
  obtain ⟨-, -, ⟨y2, z2⟩, ⟨y3, z3⟩, -⟩ := hy
  intro d
  induction d with
  | zero =>
    intro k n' acc hk hn' ha
    obtain ⟨n', rfl⟩ : ∃ z, n' = z + 1 := ⟨n' - 1, by omega⟩
    unfold lp_X0_measureChains_2
    rw [y2, p_size hc, l_of_len, if_pos (nI_le (by omega) (by omega))]
    rfl
  | succ d ih =>
    intro k n' acc hk hn' ha
    obtain ⟨n', rfl⟩ : ∃ z, n' = z + 1 := ⟨n' - 1, by omega⟩
    have h9 := hh9 k
    unfold lp_X0_measureChains_2
    rw [y2, y3, p_size hc, l_of_len, if_neg (nI_ge (by omega) (by omega)), p_at z2 hc, p_at z2 hc, p_at z3 hh, l_of_at (by omega) (by omega), l_of_at hi (by omega), l_of_at (by omega) (by omega)]
    dsimp only [lt_]
    rw [nI_max (by omega) (by omega), nI_1]
    have hiff := o_gt_iff (a := c k) (b := c i) (fun j hj => by have := hc9 k j hj; omega) (fun j hj => by have := hc9 i j hj; omega)
    unfold q_bh
    cases hg : o_gt (c k) (c i) with
    | false =>
      rw [if_pos (hiff.mpr hg), if_neg (by simp)]
      exact ih (k + 1) n' acc (by omega) (by omega) ha
    | true =>
      rw [if_neg (fun q => by rw [hiff.mp q] at hg; cases hg), if_pos rfl]
      exact ih (k + 1) n' (max acc (h k)) (by omega) (by omega) (by omega)
theorem p_chain1 (hy : AlAt Y o) (hn : n ≤ 24) (hc9 : ∀ i j, c i = some j → j < 1000) : ∀ (k n' : Nat) (M : JM), k ≤ n → k < n' → LN M (o + 5) 24 (l_of n (fun t => oI (c t))) → LN M (o + 7) 24 (l_of n (fun t => nI (q_chains c n (n - k) t))) →
      ∃ M', lp_X0_measureChains_1 Y o n' (nI (q_most c n (n - k))) (nD 0 k) M = some (nI (q_most c n n), M') ∧ JFr (o + 7) (o + 9) M M' ∧ LN M' (o + 7) 24 (l_of n (fun t => nI (q_chains c n n t))) := by
  have hy' := hy
  obtain ⟨-, -, ⟨y2, z2⟩, ⟨y3, z3⟩, -⟩ := hy
  intro k
  induction k with
  | zero =>
    intro n' M hk hn' hc hh
    obtain ⟨n', rfl⟩ : ∃ z, n' = z + 1 := ⟨n' - 1, by omega⟩
    refine ⟨M, ?_, JFr.refl, hh⟩
    unfold lp_X0_measureChains_1
    rw [if_pos (show nD 0 0 < 0 by decide)]
    rfl
  | succ k ih =>
    intro n' M hk hn' hc hh
    obtain ⟨n', rfl⟩ : ∃ z, n' = z + 1 := ⟨n' - 1, by omega⟩
    obtain ⟨D, hD⟩ : ∃ z, z = n - (k + 1) := ⟨_, rfl⟩
    have hD1 : n - k = D + 1 := by omega
    have hD2 : n - (D + 1) = k := by omega
    have hD3 : n - D = k + 1 := by omega
    rw [← hD] at hh ⊢
    have hle := q_chains_le (c := c) (n := n) D
    have hml := q_most_le (c := c) (n := n) D
    have hbl := q_bh_le (c := c) (i := k) hle D (k + 1) 0 (Nat.zero_le _)
    have e2 := p_chain2 hy' hn hc9 (fun t => Nat.le_trans (hle t) (by omega)) hc hh (show k < n by omega) D (k + 1) j_fuel 0 (by omega) (j_fuel_gt (by omega)) (Nat.zero_le _)
    have ed : nD 0 (k + 1) = nI k := by rw [nD_s, Nat.zero_add]
    have ed2 : nI k + -1 = nD 0 k := by unfold nD; rw [Nat.zero_add]
    unfold lp_X0_measureChains_1
    rw [ed, if_neg (nI_pos (by omega)), nI_1]
    dsimp only [lt_]
    rw [nI_0] at e2
    rw [e2]
    dsimp only [Option.bind]
    rw [y2, y3, p_at z2 hc, l_of_at (by omega) (by omega), nI_1, nI_max (by omega) (by omega), ed2]
    cases hck : c k with
    | none =>
      have e : oI none = (-1 : Int32) := rfl
      rw [e, if_pos rfl]
      have eq1 : q_chains c n (D + 1) = q_chains c n D := by
        rw [q_chains, hD2, hck]
        rfl
      have eq2 : q_most c n (D + 1) = q_most c n D := by
        rw [q_most, hD2, hck]
        rfl
      obtain ⟨M', b1, b2, b3⟩ := ih n' M (by omega) (by omega) hc (by rw [hD1, eq1]; exact hh)
      rw [hD1, eq2] at b1
      exact ⟨M', b1, b2, b3⟩
    | some j =>
      have e : oI (some j) = nI j := rfl
      have hj := hc9 k j hck
      rw [e, if_neg (nI_m1 (by omega))]
      have eq1 : q_chains c n (D + 1) = f_up (q_chains c n D) k (q_bh c (q_chains c n D) k D (k + 1) 0 + 1) := by
        rw [q_chains, hD2, hD3, hck]
        rfl
      have eq2 : q_most c n (D + 1) = max (q_most c n D) (q_bh c (q_chains c n D) k D (k + 1) 0 + 1) := by
        rw [q_most, hD2, hD3, hck]
        rfl
      have hkl : k < (l_of n (fun t => nI (q_chains c n D t))).length := by rw [l_of_len]; omega
      have a1 := p_put_LN z3 hh hkl (nI (q_bh c (q_chains c n D) k D (k + 1) 0 + 1))
      have f1 := p_put_fr z3 hh hkl (nI (q_bh c (q_chains c n D) k D (k + 1) 0 + 1))
      have ef : f_up (fun t => nI (q_chains c n D t)) k (nI (q_bh c (q_chains c n D) k D (k + 1) 0 + 1)) = fun t => nI (q_chains c n (D + 1) t) := by
        rw [eq1]
        funext t
        by_cases e : t = k
        · rw [e, f_up_s, f_up_s]
        · rw [f_up_n e, f_up_n e]
      rw [l_of_set, ef] at a1
      obtain ⟨M', b1, b2, b3⟩ := ih n' _ (by omega) (by omega) (hc.frame f1 (by omega)) (by rw [hD1]; exact a1)
      rw [hD1, eq2] at b1
      exact ⟨M', b1, f1.trans b2, b3⟩
theorem p_measureChains (hy : AlAt Y o) (hn : n ≤ 24) (hc9 : ∀ i j, c i = some j → j < 1000) (hc : LN M (o + 5) 24 (l_of n (fun t => oI (c t)))) :
      ∃ M', s_X0_measureChains Y M o = some (nI (q_most c n n), M') ∧ JFr (o + 7) (o + 9) M M' ∧ LN M' (o + 7) 24 (l_of n (fun t => nI (q_chains c n n t))) := by
  have hy' := hy
  obtain ⟨-, -, ⟨y2, z2⟩, ⟨y3, z3⟩, -⟩ := hy
  obtain ⟨M1, a1, a2, a3⟩ := p_fillWith z3 (M := M) 0 (k := n) (by omega)
  have e0 : List.replicate n (0 : Int32) = l_of n (fun t => nI (q_chains c n (n - n) t)) := by
    rw [Nat.sub_self]
    apply List.ext_getElem?
    intro t
    by_cases ht : t < n
    · rw [l_of_get ht, List.getElem?_replicate_of_lt ht]
      rfl
    · rw [List.getElem?_eq_none (by simp; omega), List.getElem?_eq_none (by rw [l_of_len]; omega)]
  rw [e0] at a3
  obtain ⟨M', b1, b2, b3⟩ := p_chain1 hy' hn hc9 n j_fuel M1 (Nat.le_refl _) (j_fuel_gt (by omega)) (hc.frame a2 (by omega)) a3
  refine ⟨M', ?_, a2.trans b2, b3⟩
  unfold s_X0_measureChains
  rw [y2, y3, p_size hc, l_of_len, a1]
  dsimp only [Option.bind, lt_]
  rw [p_size (hc.frame a2 (by omega)), l_of_len, nI_m]
  rw [Nat.sub_self] at b1
  have e9 : nI (q_most c n 0) = (0 : Int32) := rfl
  rw [e9] at b1
  rw [b1]
end ANC

/-! ===== pure: Alignment.build ===== -/
def q_anch (xs ys : List Int32) (c : Nat → Option Nat) (h : Nat → Nat) : Nat → Nat → Nat → Nat → Nat → List (Nat × Nat) → Nat → List (Nat × Nat) × Nat × Nat × Nat
  | 0, _, _, a0, b0, P, anc => (P, anc, a0, b0)
  | d + 1, i, left, a0, b0, P, anc => match c i with
    | none => q_anch xs ys c h d (i + 1) left a0 b0 P anc
    | some j => if 0 < left ∧ b0 ≤ j ∧ h i = left then q_anch xs ys c h d (i + 1) (left - 1) (i + 1) (j + 1) (P ++ q_pairs xs ys i j (i - a0) a0 b0 ++ [(i, j)]) (anc + 1) else q_anch xs ys c h d (i + 1) left a0 b0 P anc
def q_align (xs ys : List Int32) (w : Bool) : List (Nat × Nat) × Nat :=
  if w then
    ((q_anch xs ys (q_cand xs ys) (q_chains (q_cand xs ys) xs.length xs.length) xs.length 0 (q_most (q_cand xs ys) xs.length xs.length) 0 0 [] 0).1 ++
      q_pairs xs ys xs.length ys.length (xs.length - (q_anch xs ys (q_cand xs ys) (q_chains (q_cand xs ys) xs.length xs.length) xs.length 0 (q_most (q_cand xs ys) xs.length xs.length) 0 0 [] 0).2.2.1)
        (q_anch xs ys (q_cand xs ys) (q_chains (q_cand xs ys) xs.length xs.length) xs.length 0 (q_most (q_cand xs ys) xs.length xs.length) 0 0 [] 0).2.2.1
        (q_anch xs ys (q_cand xs ys) (q_chains (q_cand xs ys) xs.length xs.length) xs.length 0 (q_most (q_cand xs ys) xs.length xs.length) 0 0 [] 0).2.2.2,
     (q_anch xs ys (q_cand xs ys) (q_chains (q_cand xs ys) xs.length xs.length) xs.length 0 (q_most (q_cand xs ys) xs.length xs.length) 0 0 [] 0).2.1)
  else (q_pairs xs ys xs.length ys.length xs.length 0 0, 0)
theorem q_pairs_PB {xs ys : List Int32} {i j a0 b0 : Nat} {P : List (Nat × Nat)} (h : PB P a0 b0) (ha : a0 ≤ i) (hb : b0 ≤ j) : PB (P ++ q_pairs xs ys i j (i - a0) a0 b0) i j := by
  refine (h.mono ha hb).app (fun p hp => ?_)
  have := q_pairs_b (i - a0) a0 b0 hb p hp
  omega
section BLD
variable {Y : JY} {M : JM} {o : Nat} {xs ys : List Int32} {q1 q2 c1 c2 n m anc : Nat} {c : Nat → Option Nat} {h : Nat → Nat} {P : List (Nat × Nat)} {rs : List (List Int32)}
theorem AL.tick (hA : AL M o n m P anc rs) : AL (j_up M o 6 (nI (anc + 1))) o n m P (anc + 1) rs := by
  have f : JFr o (o + 1) M (j_up M o 6 (nI (anc + 1))) := JFr.up
  exact ⟨hA.1.frame f (by omega), hA.2.1.frame f (by omega), by rw [j_up_k (by decide)]; exact hA.2.2.1, j_up_s, hA.2.2.2.2.1, hA.2.2.2.2.2.frame f (by omega)⟩
theorem p_byAnchors_loop (hy : AlAt Y o) (hy1 : LnAt Y q1 c1) (hy2 : LnAt Y q2 c2) (hd1 : q1 + 2 ≤ o ∨ o + 11 ≤ q1) (hd2 : q2 + 2 ≤ o ∨ o + 11 ≤ q2) (hx24 : xs.length ≤ 24) (hy24 : ys.length ≤ 24) (hc9 : ∀ i j, c i = some j → j < ys.length) (hh9 : ∀ k, h k ≤ 100) :
    ∀ (d i n' left a0 b0 : Nat) (M : JM) (P : List (Nat × Nat)) (anc : Nat) (rs : List (List Int32)), xs.length = i + d → d < n' → left ≤ 100 → a0 ≤ i → b0 ≤ ys.length → AL M o xs.length ys.length P anc rs → PB P a0 b0 → LN M q1 c1 xs → LN M q2 c2 ys →
      LN M (o + 5) 24 (l_of xs.length (fun t => oI (c t))) → LN M (o + 7) 24 (l_of xs.length (fun t => nI (h t))) →
      ∃ M' rs', lp_X0_alignByAnchors_1 Y q1 o q2 n' (nI left) (nI a0) (nI b0) (nI i) M = some (nI (q_anch xs ys c h d i left a0 b0 P anc).2.2.1, nI (q_anch xs ys c h d i left a0 b0 P anc).2.2.2, M') ∧ AlFr o M M' ∧
        AL M' o xs.length ys.length (q_anch xs ys c h d i left a0 b0 P anc).1 (q_anch xs ys c h d i left a0 b0 P anc).2.1 rs' ∧ PB (q_anch xs ys c h d i left a0 b0 P anc).1 (q_anch xs ys c h d i left a0 b0 P anc).2.2.1 (q_anch xs ys c h d i left a0 b0 P anc).2.2.2 ∧
        (q_anch xs ys c h d i left a0 b0 P anc).2.2.1 ≤ xs.length ∧ (q_anch xs ys c h d i left a0 b0 P anc).2.2.2 ≤ ys.length := by
  have hy' := hy
  obtain ⟨-, -, ⟨y2, z2⟩, ⟨y3, z3⟩, -⟩ := hy
  intro d
  induction d with
  | zero =>
    intro i n' left a0 b0 M P anc rs hi hn hl ha hb hA hP h1 h2 hc hh
    obtain ⟨n', rfl⟩ : ∃ z, n' = z + 1 := ⟨n' - 1, by omega⟩
    refine ⟨M, rs, ?_, fun _ _ => rfl, hA, hP, ?_, hb⟩
    · unfold lp_X0_alignByAnchors_1
      rw [p_size h1, if_pos (nI_le (by omega) (by omega))]
      rfl
    · show a0 ≤ _
      omega
  | succ d ih =>
    intro i n' left a0 b0 M P anc rs hi hn hl ha hb hA hP h1 h2 hc hh
    obtain ⟨n', rfl⟩ : ∃ z, n' = z + 1 := ⟨n' - 1, by omega⟩
    have hhi := hh9 i
    unfold lp_X0_alignByAnchors_1
    rw [p_size h1, if_neg (nI_ge (by omega) (by omega)), y2, y3, p_at z2 hc, p_at z3 hh, l_of_at (by omega) (by omega), l_of_at (by omega) (by omega)]
    dsimp only [lt_]
    unfold q_anch
    cases hci : c i with
    | none =>
      have e : oI none < nI b0 := by
        show (-1 : Int32) < nI b0
        rw [Int32.lt_iff_toInt_lt, nI_toInt (by omega)]
        have e : (-1 : Int32).toInt = -1 := by decide
        rw [e]
        omega
      rw [if_pos (Or.inr (Or.inl e))]
      dsimp only [Option.bind]
      rw [nI_1]
      exact ih (i + 1) n' left a0 b0 M P anc rs (by omega) (by omega) hl (by omega) hb hA hP h1 h2 hc hh
    | some j =>
      have hj := hc9 i j hci
      have e : oI (some j) = nI j := rfl
      rw [e]
      dsimp only
      by_cases q : 0 < left ∧ b0 ≤ j ∧ h i = left
      · obtain ⟨qa, qb, qc⟩ := q
        have e1 : ¬ (nI left ≤ 0 ∨ nI j < nI b0 ∨ ¬ nI (h i) = nI left) := by
          rintro (a | a | a)
          · exact nI_nle qa (by omega) a
          · exact nI_nlt qb (by omega) a
          · exact a (by rw [qc])
        obtain ⟨M1, rs1, a1, a2, a3⟩ := p_alignPart hy' hy1 hy2 hd1 hd2 (i1 := i) (j1 := j) (by omega) (by omega) hx24 hy24 ha qb hA h1 h2 hP
        have hP1 := q_pairs_PB (xs := xs) (ys := ys) hP ha qb
        obtain ⟨g1, g2⟩ := p_addPair0 hy' a3 (show i < xs.length by omega) hj (fun p hp => by
          have := hP1 p hp
          omega)
        have g3 := AL.tick g1
        have F1 : AlFr o M (s_X0_addPair Y M1 o (nI i) (nI j)) := a2.trans (AlFr.of1 g2)
        have F2 : AlFr o (s_X0_addPair Y M1 o (nI i) (nI j)) (j_up (s_X0_addPair Y M1 o (nI i) (nI j)) o 6 (nI (anc + 1))) := AlFr.of1 (JFr.up.mono (Nat.le_refl _) (by omega))
        have F := F1.trans F2
        have hP2 : PB (P ++ q_pairs xs ys i j (i - a0) a0 b0 ++ [(i, j)]) (i + 1) (j + 1) := (hP1.mono (by omega) (by omega)).app (fun p hp => by rw [List.mem_singleton.mp hp]; exact ⟨Nat.lt_succ_self _, Nat.lt_succ_self _⟩)
        obtain ⟨M', rs', b1, b2, b3⟩ := ih (i + 1) n' (left - 1) (i + 1) (j + 1) _ _ (anc + 1) rs1 (by omega) (by omega) (by omega) (Nat.le_refl _) hj g3 hP2 (F.LN h1 (by omega)) (F.LN h2 (by omega)) (F.LN hc (by omega)) (F.LN hh (by omega))
        rw [if_neg e1, if_pos ⟨qa, qb, qc⟩, a1]
        dsimp only [Option.bind]
        rw [g1.2.2.2.1, nI_1, nI_1, nI_1]
        have e5 : nI left + -1 = nI (left - 1) := by
          have := nI_dec (left - 1)
          rw [Nat.sub_add_cancel qa] at this
          exact this
        rw [e5]
        exact ⟨M', rs', b1, F.trans b2, b3⟩
      · have e1 : nI left ≤ 0 ∨ nI j < nI b0 ∨ ¬ nI (h i) = nI left := by
          by_cases qa : 0 < left
          · by_cases qb : b0 ≤ j
            · refine Or.inr (Or.inr (fun c9 => q ⟨qa, qb, (nI_eq (by omega) (by omega)).mp c9⟩))
            · exact Or.inr (Or.inl (nI_lt (by omega) (by omega)))
          · refine Or.inl ?_
            rw [show left = 0 by omega]
            decide
        rw [if_pos e1, if_neg q]
        dsimp only [Option.bind]
        rw [nI_1]
        exact ih (i + 1) n' left a0 b0 M P anc rs (by omega) (by omega) hl (by omega) hb hA hP h1 h2 hc hh
theorem AL.start (hy : AlAt Y o) {M0 : JM} (hr : ∃ rs, rs.length = 25 ∧ TB M0 (o + 9) 625 25 rs) (hn : n ≤ 24) (hm : m ≤ 24) {M1 M2 : JM} (e1 : s_X4_fillWith Y M0 (o + 1) (-1) (nI n) = some M1) (e2 : s_X4_fillWith Y M1 (o + 3) (-1) (nI m) = some M2) :
    ∃ rs, AL (j_up (j_up M2 o 5 0) o 6 0) o n m [] 0 rs ∧ JFr o (o + 5) M0 (j_up (j_up M2 o 5 0) o 6 0) := by
  obtain ⟨⟨y0, z0⟩, ⟨y1, z1⟩, -, -, -⟩ := hy
  obtain ⟨rs, hl, hT⟩ := hr
  obtain ⟨N1, a1, a2, a3⟩ := p_fillWith z0 (M := M0) (-1) hn
  obtain rfl : N1 = M1 := Option.some.inj (a1.symm.trans e1)
  obtain ⟨N2, b1, b2, b3⟩ := p_fillWith z1 (M := N1) (-1) hm
  obtain rfl : N2 = M2 := Option.some.inj (b1.symm.trans e2)
  have f : JFr o (o + 1) N2 (j_up (j_up N2 o 5 0) o 6 0) := JFr.up.trans JFr.up
  have er : ∀ k, List.replicate k (-1 : Int32) = l_of k (fun i => oI (lk [] i)) := by
    intro k
    apply List.ext_getElem?
    intro t
    by_cases ht : t < k
    · rw [l_of_get ht, List.getElem?_replicate_of_lt ht]
      rfl
    · rw [List.getElem?_eq_none (by simp; omega), List.getElem?_eq_none (by rw [l_of_len]; omega)]
  have er2 : ∀ k, List.replicate k (-1 : Int32) = l_of k (fun i => oI (lk2 [] i)) := er
  rw [er] at a3
  rw [er2] at b3
  refine ⟨rs, ⟨(a3.frame b2 (by omega)).frame f (by omega), b3.frame f (by omega), ?_, ?_, hl, ((hT.frame a2 (by omega)).frame b2 (by omega)).frame f (by omega)⟩, ((a2.mono (by omega) (by omega)).trans (b2.mono (by omega) (by omega))).trans (f.mono (Nat.le_refl _) (by omega))⟩
  · rw [j_up_k (by decide), j_up_s]
    rfl
  · rw [j_up_s]
    rfl
theorem p_build (hy : AlAt Y o) (hy1 : LnAt Y q1 c1) (hy2 : LnAt Y q2 c2) (hd1 : q1 + 2 ≤ o ∨ o + 11 ≤ q1) (hd2 : q2 + 2 ≤ o ∨ o + 11 ≤ q2) (hx24 : xs.length ≤ 24) (hy24 : ys.length ≤ 24) (hr : ∃ rs, rs.length = 25 ∧ TB M (o + 9) 625 25 rs) (h1 : LN M q1 c1 xs) (h2 : LN M q2 c2 ys) (mo : Int32) :
    ∃ M' rs', s_X0_build Y M o q1 q2 mo = some M' ∧ JFr o (o + 11) M M' ∧ AL M' o xs.length ys.length (q_align xs ys (decide (mo = 1))).1 (q_align xs ys (decide (mo = 1))).2 rs' := by
  have hy' := hy
  obtain ⟨⟨y0, z0⟩, ⟨y1, z1⟩, ⟨y2, z2⟩, ⟨y3, z3⟩, -⟩ := hy
  obtain ⟨N1, a1, a2, a3⟩ := p_fillWith z0 (M := M) (-1) hx24
  obtain ⟨N2, b1, b2, b3⟩ := p_fillWith z1 (M := N1) (-1) hy24
  obtain ⟨rs, g1, g2⟩ := AL.start hy' hr hx24 hy24 a1 b1
  obtain ⟨N3, hN3⟩ : ∃ z, z = j_up (j_up N2 o 5 0) o 6 0 := ⟨_, rfl⟩
  rw [← hN3] at g1 g2
  have k1 := h1.frame g2 (by omega)
  have k2 := h2.frame g2 (by omega)
  unfold s_X0_build
  rw [y0, y1, p_size h1, a1]
  dsimp only [Option.bind, lt_]
  rw [p_size (h2.frame a2 (by omega)), b1]
  dsimp only
  rw [← hN3]
  by_cases q : mo = 1
  · rw [if_pos q]
    obtain ⟨N4, c1', c2', c3⟩ := p_findCandidates hy' hy1 hy2 hd1 hd2 hx24 k1 k2
    have F4 : JFr (o + 5) (o + 9) N3 N4 := c2'.mono (Nat.le_refl _) (by omega)
    obtain ⟨N5, d1, d2, d3⟩ := p_measureChains hy' hx24 (c := q_cand xs ys) (fun i j hj => by have := q_cand_lt hj; omega) c3
    have F5 : JFr (o + 5) (o + 9) N3 N5 := F4.trans (d2.mono (by omega) (Nat.le_refl _))
    have hA : AL N5 o xs.length ys.length [] 0 rs := ⟨g1.1.frame F5 (by omega), g1.2.1.frame F5 (by omega), by rw [F5 o (by omega)]; exact g1.2.2.1, by rw [F5 o (by omega)]; exact g1.2.2.2.1, g1.2.2.2.2.1, g1.2.2.2.2.2.frame F5 (by omega)⟩
    have hm := q_most_le (c := q_cand xs ys) (n := xs.length) xs.length
    obtain ⟨N6, rs6, i1, i2, i3, i4, i5, i6⟩ := p_byAnchors_loop hy' hy1 hy2 hd1 hd2 hx24 hy24 (c := q_cand xs ys) (h := q_chains (q_cand xs ys) xs.length xs.length) (fun i j hj => q_cand_lt hj) (fun k => by have := q_chains_le (c := q_cand xs ys) (n := xs.length) xs.length k; omega)
      xs.length 0 j_fuel (q_most (q_cand xs ys) xs.length xs.length) 0 0 N5 [] 0 rs (by omega) (j_fuel_gt (by omega)) (by omega) (Nat.le_refl _) (Nat.zero_le _) hA (fun p hp => absurd hp List.not_mem_nil) (k1.frame F5 (by omega)) (k2.frame F5 (by omega)) (c3.frame d2 (by omega)) d3
    obtain ⟨r, hr9⟩ : ∃ z, z = q_anch xs ys (q_cand xs ys) (q_chains (q_cand xs ys) xs.length xs.length) xs.length 0 (q_most (q_cand xs ys) xs.length xs.length) 0 0 [] 0 := ⟨_, rfl⟩
    rw [← hr9] at i1 i3 i4 i5 i6
    have l1 := (i2.LN (k1.frame F5 (by omega)) (by omega))
    have l2 := (i2.LN (k2.frame F5 (by omega)) (by omega))
    obtain ⟨N7, rs7, j1, j2, j3⟩ := p_alignPart hy' hy1 hy2 hd1 hd2 (i1 := xs.length) (j1 := ys.length) (Nat.le_refl _) (Nat.le_refl _) hx24 hy24 i5 i6 i3 l1 l2 i4
    refine ⟨N7, rs7, ?_, ?_, ?_⟩
    · unfold s_X0_alignByAnchors
      rw [c1']
      dsimp only [Option.bind]
      rw [d1]
      dsimp only [lt_]
      rw [nI_0] at i1
      rw [i1]
      dsimp only
      rw [p_size l1, p_size l2, j1]
    · exact ((g2.mono (Nat.le_refl _) (by omega)).trans (F5.mono (by omega) (by omega))).trans ((i2.trans j2).fr)
    · have e : q_align xs ys (decide (mo = 1)) = (r.1 ++ q_pairs xs ys xs.length ys.length (xs.length - r.2.2.1) r.2.2.1 r.2.2.2, r.2.1) := by
        unfold q_align
        rw [if_pos (by simpa using q), ← hr9]
      rw [e]
      exact j3
  · rw [if_neg q]
    obtain ⟨N7, rs7, j1, j2, j3⟩ := p_alignPart hy' hy1 hy2 hd1 hd2 (i0 := 0) (j0 := 0) (i1 := xs.length) (j1 := ys.length) (Nat.le_refl _) (Nat.le_refl _) hx24 hy24 (Nat.zero_le _) (Nat.zero_le _) g1 k1 k2 (fun p hp => absurd hp List.not_mem_nil)
    refine ⟨N7, rs7, ?_, (g2.mono (Nat.le_refl _) (by omega)).trans j2.fr, ?_⟩
    · rw [p_size k1, p_size k2]
      rw [nI_0] at j1
      rw [j1]
    · have e : q_align xs ys (decide (mo = 1)) = (q_pairs xs ys xs.length ys.length xs.length 0 0, 0) := by
        unfold q_align
        rw [if_neg (by simpa using q)]
      rw [e]
      exact j3
end BLD

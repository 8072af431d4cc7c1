/-! ===== pure: the model's compare ===== -/
def TBm (M : JM) (a w : Nat) (rs : List (List Int32)) : Prop := ∀ i, i < rs.length → ∀ j, j < w → t_at rs i j = M a (w * i + j)
theorem TBm.eq {M M' : JM} {a w : Nat} {rs : List (List Int32)} (h : TBm M a w rs) (e : M' a = M a) : TBm M' a w rs := fun i hi j hj => by rw [e]; exact h i hi j hj
theorem t_at_app {rs : List (List Int32)} {r : List Int32} {i j : Nat} (h : i < rs.length) : t_at (rs ++ [r]) i j = t_at rs i j := by
  unfold t_at
  rw [List.getElem?_append_left h]
theorem t_at_last {rs : List (List Int32)} {r : List Int32} {j : Nat} : t_at (rs ++ [r]) rs.length j = (r[j]?).getD (-1) := by
  unfold t_at
  rw [List.getElem?_append_right (Nat.le_refl _), Nat.sub_self]
  rfl
theorem nI_4a (c : Nat) : (4 : Int32) * nI c = nI (4 * c) := by rw [show (4 : Int32) = nI 4 from rfl, nI_mul]
theorem nI_4b (c k : Nat) : nI c + nI k = nI (c + k) := nI_add c k
def q_cnt (pt : Nat → Option Nat) : Nat → Nat → Nat
  | 0, _ => 0
  | d + 1, i => (if (pt i).isSome then 1 else 0) + q_cnt pt d (i + 1)
theorem q_cnt_congr {p q : Nat → Option Nat} : ∀ (d i : Nat), (∀ t, i ≤ t → p t = q t) → q_cnt p d i = q_cnt q d i := by
  intro d
  induction d with
  | zero => intro i _; rfl
  | succ d ih =>
    intro i h
    unfold q_cnt
    rw [h i (Nat.le_refl _), ih (i + 1) (fun t ht => h t (by omega))]
theorem q_cnt_len : ∀ (d i : Nat) (P : List (Nat × Nat)), PS P → (∀ p ∈ P, i ≤ p.1 ∧ p.1 < i + d) → q_cnt (lk P) d i = P.length := by
  intro d
  induction d with
  | zero =>
    intro i P hS hB
    cases P with
    | nil => rfl
    | cons p P =>
      have := hB p List.mem_cons_self
      omega
  | succ d ih =>
    intro i P hS hB
    unfold q_cnt
    cases P with
    | nil =>
      have h1 := ih (i + 1) [] List.Pairwise.nil (fun p hp => absurd hp List.not_mem_nil)
      rw [h1]
      rfl
    | cons p P =>
      have h1 := List.pairwise_cons.mp hS
      have hp := hB p List.mem_cons_self
      by_cases e : p.1 = i
      · have e1 : lk (p :: P) i = some p.2 := by
          unfold lk
          rw [List.find?_cons_of_pos (by simpa using e)]
          rfl
        have e2 : q_cnt (lk (p :: P)) d (i + 1) = q_cnt (lk P) d (i + 1) := q_cnt_congr d (i + 1) (fun t ht => by
          unfold lk
          rw [List.find?_cons_of_neg (by simp; omega)])
        rw [e1, e2, ih (i + 1) P h1.2 (fun q hq => by
          have a1 := h1.1 q hq
          have a2 := hB q (List.mem_cons_of_mem _ hq)
          omega)]
        simp
        omega
      · have e1 : lk (p :: P) i = none := lk_none (fun q hq => by
          rcases List.mem_cons.mp hq with hq | hq
          · rw [hq]; exact e
          · have a1 := h1.1 q hq
            omega)
        rw [e1, ih (i + 1) (p :: P) hS (fun q hq => by
          have a2 := hB q hq
          rcases List.mem_cons.mp hq with hq | hq
          · rw [hq] at a2 ⊢; omega
          · have a1 := h1.1 q hq
            omega)]
        simp
section MCO
variable {Y : JY} {M : JM} {om : Nat} {xs ys : List Int32} {P : List (Nat × Nat)} {anc : Nat}
theorem m_addPart (hy : MdAt Y om) {c : Nat} (hc : c ≤ 24) (h : M om 35 = nI c) (v0 v1 v2 v3 : Int32) :
    (if j_g ((4 : Int32) * (M om 35)) (j_ln Y (j_rf Y om 34)) then (lt_ (j_up M (j_rf Y om 34) ((4 : Int32) * (M om 35)).toNatClampNeg v0) fun mm27 => if j_g (((4 : Int32) * (mm27 om 35)) + (1 : Int32)) (j_ln Y (j_rf Y om 34)) then (lt_ (j_up mm27 (j_rf Y om 34) (((4 : Int32) * (mm27 om 35)) + (1 : Int32)).toNatClampNeg v1) fun mm29 => if j_g (((4 : Int32) * (mm29 om 35)) + (2 : Int32)) (j_ln Y (j_rf Y om 34)) then (lt_ (j_up mm29 (j_rf Y om 34) (((4 : Int32) * (mm29 om 35)) + (2 : Int32)).toNatClampNeg v2) fun mm31 => if j_g (((4 : Int32) * (mm31 om 35)) + (3 : Int32)) (j_ln Y (j_rf Y om 34)) then (lt_ (j_up mm31 (j_rf Y om 34) (((4 : Int32) * (mm31 om 35)) + (3 : Int32)).toNatClampNeg v3) fun mm33 => lt_ (j_up mm33 om 35 ((mm33 om 35) + (1 : Int32))) fun mm34 => some mm34) else none) else none) else none) else none)
      = some (j_up (j_up (j_up (j_up (j_up M (om + 19) (4 * c) v0) (om + 19) (4 * c + 1) v1) (om + 19) (4 * c + 2) v2) (om + 19) (4 * c + 3) v3) om 35 (nI (c + 1))) := by
  have hL := hy (34, 19, 120) (by decide)
  have hL1 : j_rf Y om 34 = om + 19 := hL.1
  have hL2 : j_ln Y (om + 19) = 120 := hL.2
  have key : ∀ (N : JM) (k : Nat) (v : Int32), j_up N (om + 19) k v om 35 = N om 35 := fun N k v => congrFun (j_up_o (by omega)) 35
  have g : ∀ k, k < 4 → j_g (nI (4 * c + k)) 120 := fun k hk => j_g_nI (by omega) (by omega)
  rw [hL1, hL2]
  dsimp only [lt_]
  simp only [key, h, nI_4a]
  rw [show nI (4 * c) + (1 : Int32) = nI (4 * c + 1) from nI_add _ 1, show nI (4 * c) + (2 : Int32) = nI (4 * c + 2) from nI_add _ 2, show nI (4 * c) + (3 : Int32) = nI (4 * c + 3) from nI_add _ 3]
  have g0 : j_g (nI (4 * c)) 120 := j_g_nI (by omega) (by omega)
  simp only [if_pos g0, if_pos (g 1 (by decide)), if_pos (g 2 (by decide)), if_pos (g 3 (by decide)), nI_clamp (show 4 * c < 2 ^ 31 by omega), nI_clamp (show 4 * c + 1 < 2 ^ 31 by omega), nI_clamp (show 4 * c + 2 < 2 ^ 31 by omega), nI_clamp (show 4 * c + 3 < 2 ^ 31 by omega), nI_1]
theorem m_addPart_TBm {df : List (List Int32)} (h : TBm M (om + 19) 4 df) (v0 v1 v2 v3 : Int32) :
    TBm (j_up (j_up (j_up (j_up (j_up M (om + 19) (4 * df.length) v0) (om + 19) (4 * df.length + 1) v1) (om + 19) (4 * df.length + 2) v2) (om + 19) (4 * df.length + 3) v3) om 35 (nI (df.length + 1))) (om + 19) 4 (df ++ [[v0, v1, v2, v3]]) := by
  intro i hi j hj
  rw [j_up_o (by omega)]
  by_cases e : i < df.length
  · rw [t_at_app e, j_up_k (by omega), j_up_k (by omega), j_up_k (by omega), j_up_k (by omega)]
    exact h i e j hj
  · have e2 : i = df.length := by simp at hi; omega
    subst e2
    rw [t_at_last]
    rcases (show j = 0 ∨ j = 1 ∨ j = 2 ∨ j = 3 by omega) with e | e | e | e
    · subst e
      rw [j_up_k (by omega), j_up_k (by omega), j_up_k (by omega)]
      show _ = j_up M (om + 19) (4 * df.length) v0 (om + 19) (4 * df.length)
      rw [j_up_s]
      rfl
    · subst e
      rw [j_up_k (by omega), j_up_k (by omega), j_up_s]
      rfl
    · subst e
      rw [j_up_k (by omega), j_up_s]
      rfl
    · subst e
      rw [j_up_s]
      rfl
theorem m_addPart_MF {c : Nat} {v0 v1 v2 v3 : Int32} : MF om [19] [35] M (j_up (j_up (j_up (j_up (j_up M (om + 19) (4 * c) v0) (om + 19) (4 * c + 1) v1) (om + 19) (4 * c + 2) v2) (om + 19) (4 * c + 3) v3) om 35 (nI (c + 1))) := by
  refine ((((MF.ua.mono ?_ ?_).trans (MF.ua.mono ?_ ?_)).trans (MF.ua.mono ?_ ?_)).trans (MF.ua.mono ?_ ?_)).trans (MF.uf.mono ?_ ?_) <;> simp
theorem m_tellParts_loop (hy : MdAt Y om) (hx24 : xs.length ≤ 24) (hy24 : ys.length ≤ 24) (hPM : PM (lk P) xs.length ys.length) :
    ∀ (d i a0 b0 n : Nat) (M : JM) (df : List (List Int32)), xs.length = i + d → d + 1 < n → a0 ≤ i → (∀ t j, i ≤ t → lk P t = some j → b0 ≤ j) → b0 ≤ ys.length → df.length ≤ i → M om 27 = nI xs.length → M om 29 = nI ys.length → PT M (om + 17) P → M om 35 = nI df.length → TBm M (om + 19) 4 df →
      ∃ M', lp_X10_tellParts_1 Y om n (nI a0) (nI b0) (nI i) M = some M' ∧ MF om [19] [35] M M' ∧ M' om 35 = nI ((q_df (lk P) d i a0 b0 df).1 ++ q_d1 (q_df (lk P) d i a0 b0 df).2.1 xs.length (q_df (lk P) d i a0 b0 df).2.2 ys.length).length ∧
        TBm M' (om + 19) 4 ((q_df (lk P) d i a0 b0 df).1 ++ q_d1 (q_df (lk P) d i a0 b0 df).2.1 xs.length (q_df (lk P) d i a0 b0 df).2.2 ys.length) := by
  have hQ := hy (30, 17, 24) (by decide)
  have hQ1 : j_rf Y om 30 = om + 17 := hQ.1
  have hQ2 : j_ln Y (om + 17) = 24 := hQ.2
  have hcond : ∀ {a0 i b0 j : Nat}, a0 ≤ i → b0 ≤ j → i < 2 ^ 31 → j < 2 ^ 31 → ((nI a0 < nI i ∨ ¬ nI j ≤ nI b0) ↔ ¬ (a0 = i ∧ b0 = j)) := by
    intro a0 i b0 j h1 h2 h3 h4
    rw [nI_ltI (by omega) h3, nI_leI h4 (by omega)]
    omega
  have hblock : ∀ {M : JM} {df : List (List Int32)} {a0 i b0 j : Nat}, df.length ≤ 24 → a0 ≤ i → b0 ≤ j → i < 2 ^ 31 → j < 2 ^ 31 → M om 35 = nI df.length → TBm M (om + 19) 4 df →
      ∃ M2, (if nI a0 < nI i ∨ ¬ nI j ≤ nI b0 then (if j_g ((4 : Int32) * (M om 35)) (j_ln Y (j_rf Y om 34)) then (lt_ (j_up M (j_rf Y om 34) ((4 : Int32) * (M om 35)).toNatClampNeg (nI a0)) fun mm27 => if j_g (((4 : Int32) * (mm27 om 35)) + (1 : Int32)) (j_ln Y (j_rf Y om 34)) then (lt_ (j_up mm27 (j_rf Y om 34) (((4 : Int32) * (mm27 om 35)) + (1 : Int32)).toNatClampNeg (nI i)) fun mm29 => if j_g (((4 : Int32) * (mm29 om 35)) + (2 : Int32)) (j_ln Y (j_rf Y om 34)) then (lt_ (j_up mm29 (j_rf Y om 34) (((4 : Int32) * (mm29 om 35)) + (2 : Int32)).toNatClampNeg (nI b0)) fun mm31 => if j_g (((4 : Int32) * (mm31 om 35)) + (3 : Int32)) (j_ln Y (j_rf Y om 34)) then (lt_ (j_up mm31 (j_rf Y om 34) (((4 : Int32) * (mm31 om 35)) + (3 : Int32)).toNatClampNeg (nI j)) fun mm33 => lt_ (j_up mm33 om 35 ((mm33 om 35) + (1 : Int32))) fun mm34 => some mm34) else none) else none) else none) else none) else some M) = some M2 ∧ MF om [19] [35] M M2 ∧ M2 om 35 = nI (df ++ q_d1 a0 i b0 j).length ∧ TBm M2 (om + 19) 4 (df ++ q_d1 a0 i b0 j) := by
    intro M df a0 i b0 j h0 h1 h2 h3 h4 h5 h6
    by_cases q : a0 = i ∧ b0 = j
    · refine ⟨M, ?_, MF.refl, ?_, ?_⟩
      · rw [if_neg (fun c => (hcond h1 h2 h3 h4).mp c q)]
      · unfold q_d1
        rw [if_pos q, List.append_nil]
        exact h5
      · unfold q_d1
        rw [if_pos q, List.append_nil]
        exact h6
    · refine ⟨_, ?_, m_addPart_MF (c := df.length) (v0 := nI a0) (v1 := nI i) (v2 := nI b0) (v3 := nI j), ?_, ?_⟩
      · rw [if_pos ((hcond h1 h2 h3 h4).mpr q), m_addPart hy h0 h5]
      · unfold q_d1
        rw [if_neg q, j_up_s, List.length_append, List.length_singleton]
      · unfold q_d1
        rw [if_neg q]
        exact m_addPart_TBm h6 _ _ _ _
  intro d
  induction d with
  | zero =>
    intro i a0 b0 n M df hi hn ha hbt hb hdl h27 h29 hP h35 hT
    obtain ⟨n, rfl⟩ : ∃ z, n = z + 1 := ⟨n - 1, by omega⟩
    obtain ⟨n, rfl⟩ : ∃ z, n = z + 1 := ⟨n - 1, by omega⟩
    obtain ⟨M2, b1, b2, b3, b4⟩ := hblock (M := M) (df := df) (a0 := a0) (i := xs.length) (b0 := b0) (j := ys.length) (by omega) (by omega) hb (by omega) (by omega) h35 hT
    have e0 : i = xs.length := by omega
    refine ⟨M2, ?_, b2, b3, b4⟩
    unfold lp_X10_tellParts_1
    rw [h27, if_neg (nI_nlt (by omega) (by omega)), e0, if_pos rfl]
    dsimp only [lt_]
    rw [if_neg (show ¬ (1 : Int32) = 0 by decide)]
    dsimp only [Option.bind]
    rw [if_neg (show ¬ (1 : Int32) = 0 by decide)]
    dsimp only [lt_] at b1 ⊢
    rw [h29, b1]
    dsimp only
    rw [nI_1]
    unfold lp_X10_tellParts_1
    rw [b2.fld (by decide) (by decide), h27, if_pos (nI_lt (by omega) (by omega))]
  | succ d ih =>
    intro i a0 b0 n M df hi hn ha hbt hb hdl h27 h29 hP h35 hT
    obtain ⟨n, rfl⟩ : ∃ z, n = z + 1 := ⟨n - 1, by omega⟩
    have hgi : j_g (nI i) 24 := j_g_nI (by omega) (by omega)
    have ei : ¬ nI i = nI xs.length := fun c => by
      have := (nI_eq (by omega) (by omega)).mp c
      omega
    unfold lp_X10_tellParts_1 q_df
    rw [h27, if_neg (nI_nlt (by omega) (by omega)), if_neg ei]
    dsimp only [lt_]
    rw [if_pos rfl, hQ1, hQ2, if_pos hgi]
    simp only [nI_clamp (show i < 2 ^ 31 by omega)]
    rw [hP i (by omega)]
    cases hl : lk P i with
    | none =>
      have e : oI none < (0 : Int32) := by decide
      rw [if_pos e]
      dsimp only [Option.bind]
      rw [nI_1]
      exact ih (i + 1) a0 b0 n M df (by omega) (by omega) (by omega) (fun t j ht hj => hbt t j (by omega) hj) hb (by omega) h27 h29 hP h35 hT
    | some j =>
      have hj := (hPM.1 i j hl).2
      have hbj := hbt i j (Nat.le_refl _) hl
      have e : ¬ oI (some j) < (0 : Int32) := nI_pos (by omega)
      rw [if_neg e]
      dsimp only [Option.bind]
      rw [if_pos trivial, if_pos hgi]
      dsimp only
      obtain ⟨M2, b1, b2, b3, b4⟩ := hblock (M := M) (df := df) (a0 := a0) (i := i) (b0 := b0) (j := j) (by omega) ha hbj (by omega) (by omega) h35 hT
      dsimp only [lt_] at b1
      have e9 : oI (some j) = nI j := rfl
      rw [e9, b1]
      dsimp only
      rw [nI_1, nI_1]
      have hdl2 : (df ++ q_d1 a0 i b0 j).length ≤ i + 1 := by
        have := q_d1_len (a0 := a0) (i := i) (b0 := b0) (j := j)
        rw [List.length_append]
        omega
      obtain ⟨M', c1, c2, c3⟩ := ih (i + 1) (i + 1) (j + 1) n M2 _ (by omega) (by omega) (Nat.le_refl _) (fun t j' ht hj' => hPM.2 i t j j' (by omega) hl hj') (by omega) hdl2 (by rw [b2.fld (by decide) (by decide)]; exact h27) (by rw [b2.fld (by decide) (by decide)]; exact h29) (hP.eq (b2.arr (t := 17) (by decide) (by decide))) b3 b4
      exact ⟨M', c1, b2.trans c2, c3⟩
theorem m_tellParts (hy : MdAt Y om) (hx24 : xs.length ≤ 24) (hy24 : ys.length ≤ 24) (hPM : PM (lk P) xs.length ys.length) (h27 : M om 27 = nI xs.length) (h29 : M om 29 = nI ys.length) (hP : PT M (om + 17) P) :
      ∃ M', s_X10_tellParts Y M om = some M' ∧ MF om [19] [35] M M' ∧ M' om 35 = nI (q_diffs (lk P) xs.length ys.length).length ∧ TBm M' (om + 19) 4 (q_diffs (lk P) xs.length ys.length) := by
  have f : MF om [19] [35] M (j_up M om 35 0) := MF.uf.mono (by simp) (by simp)
  obtain ⟨M', a1, a2, a3, a4⟩ := m_tellParts_loop hy hx24 hy24 hPM xs.length 0 0 0 j_fuel (j_up M om 35 0) [] (by omega) (by unfold j_fuel; omega) (Nat.le_refl _) (fun _ _ _ _ => Nat.zero_le _) (Nat.zero_le _) (Nat.zero_le _) (by rw [f.fld (by decide) (by decide)]; exact h27) (by rw [f.fld (by decide) (by decide)]; exact h29) (hP.eq (f.arr (t := 17) (by decide) (by decide))) (by rw [j_up_s]; rfl) (fun i hi => absurd hi (Nat.not_lt_zero _))
  refine ⟨M', ?_, f.trans a2, a3, a4⟩
  unfold s_X10_tellParts
  dsimp only [lt_]
  rw [nI_0] at a1
  rw [a1]
  rfl
theorem m_pairMany (hy : MdAt Y om) (hx24 : xs.length ≤ 24) (hS : PS P) (hB : PB P xs.length ys.length) (hy24 : ys.length ≤ 24) (h27 : M om 27 = nI xs.length) (hP : PT M (om + 17) P) : s_X10_pairMany Y M om = some (nI P.length) := by
  have hQ := hy (30, 17, 24) (by decide)
  have hQ1 : j_rf Y om 30 = om + 17 := hQ.1
  have hQ2 : j_ln Y (om + 17) = 24 := hQ.2
  have loop : ∀ (d i n acc : Nat), xs.length = i + d → d < n → lp_X10_pairMany_1 Y M om n (nI acc) (nI i) = some (nI (acc + q_cnt (lk P) d i)) := by
    intro d
    induction d with
    | zero =>
      intro i n acc hi hn
      obtain ⟨n, rfl⟩ : ∃ z, n = z + 1 := ⟨n - 1, by omega⟩
      unfold lp_X10_pairMany_1
      rw [h27, if_pos (nI_le (by omega) (by omega))]
      rfl
    | succ d ih =>
      intro i n acc hi hn
      obtain ⟨n, rfl⟩ : ∃ z, n = z + 1 := ⟨n - 1, by omega⟩
      have hgi : j_g (nI i) 24 := j_g_nI (by omega) (by omega)
      unfold lp_X10_pairMany_1 q_cnt
      rw [h27, if_neg (nI_ge (by omega) (by omega)), hQ1, hQ2, if_pos hgi]
      simp only [nI_clamp (show i < 2 ^ 31 by omega)]
      rw [hP i (by omega)]
      dsimp only [lt_]
      rw [nI_1]
      cases hl : lk P i with
      | none =>
        have e : oI none < (0 : Int32) := by decide
        rw [if_pos e, show nI acc + 0 = nI acc by rw [← nI_0, nI_add, Nat.add_zero], ih (i + 1) n acc (by omega) (by omega)]
        simp
      | some j =>
        have := (lk_lt hB hl).1
        have e : ¬ oI (some j) < (0 : Int32) := nI_pos (by omega)
        rw [if_neg e, nI_1, ih (i + 1) n (acc + 1) (by omega) (by omega)]
        simp only [Option.isSome_some, if_true]
        rw [Nat.add_assoc]
  have e := loop xs.length 0 j_fuel 0 (by omega) (j_fuel_gt (by omega))
  rw [q_cnt_len xs.length 0 P hS (fun p hp => by have := hB p hp; omega), nI_0, Nat.zero_add] at e
  unfold s_X10_pairMany
  rw [e]
  rfl
end MCO

/-! ===== pure: Comparison, class side ===== -/
def CmAt (Y : JY) (o : Nat) : Prop := (j_rf Y o 0 = o + 1 ∧ LnAt Y (o + 1) 24) ∧ (j_rf Y o 1 = o + 3 ∧ LnAt Y (o + 3) 24) ∧ (j_rf Y o 2 = o + 5 ∧ AlAt Y (o + 5)) ∧ (j_rf Y o 3 = o + 16 ∧ TbAt Y (o + 16) 100) ∧ (j_rf Y o 4 = o + 18 ∧ LnAt Y (o + 18) 48) ∧ (j_rf Y o 5 = o + 20 ∧ TbAt Y (o + 20) 72) ∧ (j_rf Y o 6 = o + 22 ∧ LnAt Y (o + 22) 24) ∧ (j_rf Y o 7 = o + 24 ∧ LnAt Y (o + 24) 24)
theorem l_seg_sub {xs : List Int32} {b e : Nat} (h : b < e) (h2 : e ≤ xs.length) (g : Int32 → Int32) : (l_seg xs b e).map g = g ((xs[b]?).getD (-1)) :: (l_seg xs (b + 1) e).map g := by
  rw [l_seg_step h (by omega), List.map_cons, List.getElem?_eq_getElem (by omega)]
  rfl
section CMS
variable {Y : JY} {M : JM} {o : Nat} {xs ys : List Int32} {P : List (Nat × Nat)} {anc : Nat} {rs : List (List Int32)}
theorem p_addDiff_1 (hy : CmAt Y o) (e : Nat) (he : e ≤ xs.length) : ∀ (k b n : Nat) (M : JM) (st : List Int32), e = b + k → k < n → LN M (o + 1) 24 xs → LN M (o + 18) 48 st → st.length + k ≤ 48 →
      ∃ M', lp_X1_addDifference_1 Y (nI e) o n (nI b) M = some M' ∧ JFr (o + 18) (o + 20) M M' ∧ LN M' (o + 18) 48 (st ++ (l_seg xs b e).map (fun v => 100 + v)) := by
  obtain ⟨⟨y0, z0⟩, ⟨y1, z1⟩, -, -, ⟨y4, z4⟩, -⟩ := hy
  intro k
  induction k with
  | zero =>
    intro b n M st hb hn h1 h2 hc
    obtain ⟨n, rfl⟩ : ∃ z, n = z + 1 := ⟨n - 1, by omega⟩
    have h9 := h1.2.1
    refine ⟨M, ?_, JFr.refl, by rw [l_seg_nil (by omega)]; simpa using h2⟩
    unfold lp_X1_addDifference_1
    rw [if_pos (nI_le (by omega) (by omega))]
  | succ k ih =>
    intro b n M st hb hn h1 h2 hc
    obtain ⟨n, rfl⟩ : ∃ z, n = z + 1 := ⟨n - 1, by omega⟩
    have h9 := h1.2.1
    have hc1 : st.length < 48 := by omega
    have a1 := p_push_LN z4 h2 hc1 (100 + (xs[b]?).getD (-1))
    have f1 := p_push_fr z4 h2 hc1 (100 + (xs[b]?).getD (-1))
    obtain ⟨M', b1, b2, b3⟩ := ih (b + 1) n _ _ (by omega) (by omega) (h1.frame f1 (by omega)) a1 (by simp; omega)
    refine ⟨M', ?_, f1.trans b2, ?_⟩
    · unfold lp_X1_addDifference_1
      rw [if_neg (nI_ge (by omega) (by omega)), y0, y4, p_at z0 h1, l_at_nI (by omega)]
      dsimp only [lt_]
      rw [nI_1]
      exact b1
    · rw [l_seg_sub (by omega) he, ← List.singleton_append, ← List.append_assoc]
      exact b3
theorem p_addDiff_2 (hy : CmAt Y o) (e : Nat) (he : e ≤ ys.length) : ∀ (k b n : Nat) (M : JM) (st : List Int32), e = b + k → k < n → LN M (o + 3) 24 ys → LN M (o + 18) 48 st → st.length + k ≤ 48 →
      ∃ M', lp_X1_addDifference_2 Y (nI e) o n (nI b) M = some M' ∧ JFr (o + 18) (o + 20) M M' ∧ LN M' (o + 18) 48 (st ++ (l_seg ys b e).map (fun v => 200 + v)) := by
  obtain ⟨⟨y0, z0⟩, ⟨y1, z1⟩, -, -, ⟨y4, z4⟩, -⟩ := hy
  intro k
  induction k with
  | zero =>
    intro b n M st hb hn h1 h2 hc
    obtain ⟨n, rfl⟩ : ∃ z, n = z + 1 := ⟨n - 1, by omega⟩
    have h9 := h1.2.1
    refine ⟨M, ?_, JFr.refl, by rw [l_seg_nil (by omega)]; simpa using h2⟩
    unfold lp_X1_addDifference_2
    rw [if_pos (nI_le (by omega) (by omega))]
  | succ k ih =>
    intro b n M st hb hn h1 h2 hc
    obtain ⟨n, rfl⟩ : ∃ z, n = z + 1 := ⟨n - 1, by omega⟩
    have h9 := h1.2.1
    have hc1 : st.length < 48 := by omega
    have a1 := p_push_LN z4 h2 hc1 (200 + (ys[b]?).getD (-1))
    have f1 := p_push_fr z4 h2 hc1 (200 + (ys[b]?).getD (-1))
    obtain ⟨M', b1, b2, b3⟩ := ih (b + 1) n _ _ (by omega) (by omega) (h1.frame f1 (by omega)) a1 (by simp; omega)
    refine ⟨M', ?_, f1.trans b2, ?_⟩
    · unfold lp_X1_addDifference_2
      rw [if_neg (nI_ge (by omega) (by omega)), y1, y4, p_at z1 h1, l_at_nI (by omega)]
      dsimp only [lt_]
      rw [nI_1]
      exact b1
    · rw [l_seg_sub (by omega) he, ← List.singleton_append, ← List.append_assoc]
      exact b3
theorem p_addDifference (hy : CmAt Y o) {a0 i b0 j : Nat} (ha : a0 ≤ i) (hi : i ≤ xs.length) (hb : b0 ≤ j) (hj : j ≤ ys.length) (h1 : LN M (o + 1) 24 xs) (h2 : LN M (o + 3) 24 ys) (hT : TB M (o + 16) 100 4 rs) (hrl : rs.length ≤ 24) {st : List Int32} (hS : LN M (o + 18) 48 st) (hsl : st.length + (i - a0) + (j - b0) ≤ 48) :
      ∃ M', s_X1_addDifference Y M o (nI a0) (nI i) (nI b0) (nI j) = some M' ∧ JFr (o + 16) (o + 20) M M' ∧ TB M' (o + 16) 100 4 (rs ++ q_d1 a0 i b0 j) ∧ LN M' (o + 18) 48 (st ++ q_s1 xs ys a0 i b0 j) := by
  have hy' := hy
  have hx9 := h1.2.1
  have hy9 := h2.2.1
  obtain ⟨-, -, -, ⟨y3, z3⟩, -⟩ := hy
  unfold s_X1_addDifference
  by_cases q : a0 = i ∧ b0 = j
  · obtain ⟨rfl, rfl⟩ := q
    refine ⟨M, ?_, JFr.refl, ?_, ?_⟩
    · rw [if_neg (fun c => c.elim (fun c => c rfl) (fun c => c rfl))]
    · unfold q_d1
      rw [if_pos ⟨rfl, rfl⟩, List.append_nil]
      exact hT
    · unfold q_s1
      rw [l_seg_nil (Nat.le_refl _), l_seg_nil (Nat.le_refl _)]
      simpa using hS
  · have q' : ¬ nI a0 = nI i ∨ ¬ nI b0 = nI j := by
      by_cases e : a0 = i
      · exact Or.inr (fun c => q ⟨e, (nI_eq (by omega) (by omega)).mp c⟩)
      · exact Or.inl (fun c => e ((nI_eq (by omega) (by omega)).mp c))
    rw [if_pos q', y3]
    obtain ⟨M1, a1, a2, a3⟩ := p_addRow z3 (by decide) hT (by omega)
    have hq : ∀ r : List Int32, rs.length < (rs ++ [r]).length := fun r => by simp
    have t0 := p_tput_TB z3 (by decide) a3 (hq _) (show 0 < 4 by decide) (nI a0)
    have f0 := p_tput_fr z3 (by decide) a3 (hq _) (show 0 < 4 by decide) (nI a0)
    rw [t_put_last] at t0
    have t1 := p_tput_TB z3 (by decide) t0 (hq _) (show 1 < 4 by decide) (nI i)
    have f1 := p_tput_fr z3 (by decide) t0 (hq _) (show 1 < 4 by decide) (nI i)
    rw [t_put_last] at t1
    have t2 := p_tput_TB z3 (by decide) t1 (hq _) (show 2 < 4 by decide) (nI b0)
    have f2 := p_tput_fr z3 (by decide) t1 (hq _) (show 2 < 4 by decide) (nI b0)
    rw [t_put_last] at t2
    have t3 := p_tput_TB z3 (by decide) t2 (hq _) (show 3 < 4 by decide) (nI j)
    have f3 := p_tput_fr z3 (by decide) t2 (hq _) (show 3 < 4 by decide) (nI j)
    rw [t_put_last] at t3
    have F := (((a2.trans f0).trans f1).trans f2).trans f3
    obtain ⟨M2, b1, b2, b3⟩ := p_addDiff_1 hy' i hi (i - a0) a0 j_fuel _ st (by omega) (j_fuel_gt (by omega)) (h1.frame F (by omega)) (hS.frame F (by omega)) (by omega)
    have F2 : JFr (o + 16) (o + 20) M M2 := (F.mono (by omega) (by omega)).trans (b2.mono (by omega) (by omega))
    obtain ⟨M3, c1, c2, c3⟩ := p_addDiff_2 hy' j hj (j - b0) b0 j_fuel M2 _ (by omega) (j_fuel_gt (by omega)) (h2.frame F2 (by omega)) b3 (by
      rw [List.length_append, List.length_map, l_seg_len hi]
      omega)
    refine ⟨M3, ?_, F2.trans (c2.mono (by omega) (by omega)), ?_, ?_⟩
    · rw [a1]
      dsimp only [Option.bind, lt_]
      rw [show nI 0 = (0 : Int32) from rfl, show nI 1 = (1 : Int32) from rfl, show nI 2 = (2 : Int32) from rfl, show nI 3 = (3 : Int32) from rfl] at b1
      rw [b1]
      dsimp only
      rw [c1]
    · unfold q_d1
      rw [if_neg q]
      exact (t3.frame b2 (by omega)).frame c2 (by omega)
    · unfold q_s1
      rw [← List.append_assoc]
      exact c3
theorem p_isFirstKept {al n m : Nat} (hy : AlAt Y al) (h : AL M al n m P anc rs) {i : Nat} (hi : i < n) (hP : PB P n m) (hm : m < 1000) : s_X0_isFirstKept Y M al (nI i) = if (lk P i).isSome then 1 else 0 := by
  obtain ⟨⟨y0, z0⟩, -⟩ := hy
  have h9 := h.1.2.1
  rw [l_of_len] at h9
  unfold s_X0_isFirstKept
  rw [y0, p_at z0 h.1, l_of_at hi (by omega)]
  cases hl : lk P i with
  | none => rfl
  | some j =>
    have := (lk_lt hP hl).1
    have e : ¬ oI (some j) = (-1 : Int32) := nI_m1 (by omega)
    rw [if_neg e]
    rfl
theorem p_partnerOf {al n m : Nat} (hy : AlAt Y al) (h : AL M al n m P anc rs) {i : Nat} (hi : i < n) : s_X0_partnerOf Y M al (nI i) = oI (lk P i) := by
  obtain ⟨⟨y0, z0⟩, -⟩ := hy
  have h9 := h.1.2.1
  rw [l_of_len] at h9
  unfold s_X0_partnerOf
  rw [y0, p_at z0 h.1, l_of_at hi (by omega)]
theorem p_collect_loop (hy : CmAt Y o) (hPM : PM (lk P) xs.length ys.length) (hPB : PB P xs.length ys.length) :
    ∀ (d i a0 b0 n : Nat) (M : JM) (rs9 : List (List Int32)) (df : List (List Int32)) (st : List Int32), xs.length = i + d → d < n → a0 ≤ i → (∀ t j, i ≤ t → lk P t = some j → b0 ≤ j) → b0 ≤ ys.length → df.length ≤ i → st.length ≤ a0 + b0 →
      LN M (o + 1) 24 xs → LN M (o + 3) 24 ys → AL M (o + 5) xs.length ys.length P anc rs9 → TB M (o + 16) 100 4 df → LN M (o + 18) 48 st →
      ∃ M' st', lp_X1_collectDifferences_1 Y o n (nI a0) (nI b0) (nI i) M = some (nI (q_df (lk P) d i a0 b0 df).2.1, nI (q_df (lk P) d i a0 b0 df).2.2, M') ∧ JFr (o + 16) (o + 20) M M' ∧ TB M' (o + 16) 100 4 (q_df (lk P) d i a0 b0 df).1 ∧ LN M' (o + 18) 48 st' ∧
        st' ++ q_s1 xs ys (q_df (lk P) d i a0 b0 df).2.1 xs.length (q_df (lk P) d i a0 b0 df).2.2 ys.length = q_sf xs ys (lk P) d i a0 b0 st ∧ (q_df (lk P) d i a0 b0 df).2.1 ≤ xs.length ∧ (q_df (lk P) d i a0 b0 df).2.2 ≤ ys.length ∧ st'.length ≤ (q_df (lk P) d i a0 b0 df).2.1 + (q_df (lk P) d i a0 b0 df).2.2 := by
  have hy' := hy
  obtain ⟨⟨y0, z0⟩, ⟨y1, z1⟩, ⟨y2, z2⟩, ⟨y3, z3⟩, ⟨y4, z4⟩, -⟩ := hy
  intro d
  induction d with
  | zero =>
    intro i a0 b0 n M rs9 df st hi hn ha hbt hb hdl hsl h1 h2 hA hT hS
    obtain ⟨n, rfl⟩ : ∃ z, n = z + 1 := ⟨n - 1, by omega⟩
    have h9 := h1.2.1
    refine ⟨M, st, ?_, JFr.refl, hT, hS, rfl, ?_, hb, hsl⟩
    · unfold lp_X1_collectDifferences_1
      rw [y0, p_size h1, if_pos (nI_le (by omega) (by omega))]
      rfl
    · show a0 ≤ _
      omega
  | succ d ih =>
    intro i a0 b0 n M rs9 df st hi hn ha hbt hb hdl hsl h1 h2 hA hT hS
    obtain ⟨n, rfl⟩ : ∃ z, n = z + 1 := ⟨n - 1, by omega⟩
    have h9 := h1.2.1
    have h92 := h2.2.1
    have hix : i < xs.length := by omega
    unfold lp_X1_collectDifferences_1 q_df q_sf
    rw [y0, p_size h1, if_neg (nI_ge (by omega) (by omega)), y2, p_isFirstKept z2 hA hix hPB (by omega), p_partnerOf z2 hA hix]
    cases hl : lk P i with
    | none =>
      dsimp only
      rw [if_pos (show (if (none : Option Nat).isSome = true then (1 : Int32) else 0) = 0 from rfl)]
      dsimp only [Option.bind, lt_]
      rw [nI_1]
      exact ih (i + 1) a0 b0 n M rs9 df st (by omega) (by omega) (by omega) (fun t j ht hj => hbt t j (by omega) hj) hb (by omega) hsl h1 h2 hA hT hS
    | some j =>
      have hj := (hPM.1 i j hl).2
      have hbj := hbt i j (Nat.le_refl _) hl
      have e : oI (some j) = nI j := rfl
      dsimp only
      rw [if_neg (show ¬ (if (some j : Option Nat).isSome = true then (1 : Int32) else 0) = 0 by simp), e]
      obtain ⟨M1, a1, a2, a3, a4⟩ := p_addDifference hy' ha (show i ≤ xs.length by omega) hbj (show j ≤ ys.length by omega) h1 h2 hT (by omega) hS (by omega)
      have k1 := h1.frame a2 (by omega)
      have hql : (st ++ q_s1 xs ys a0 i b0 j).length = st.length + (i - a0) + (j - b0) := by
        unfold q_s1
        rw [List.length_append, List.length_append, List.length_map, List.length_map, l_seg_len (by omega), l_seg_len (by omega)]
        omega
      have hc1 : (st ++ q_s1 xs ys a0 i b0 j).length < 48 := by omega
      have b1 := p_push_LN z4 a4 hc1 ((xs[i]?).getD (-1))
      have f1 := p_push_fr z4 a4 hc1 ((xs[i]?).getD (-1))
      have hdl2 : (df ++ q_d1 a0 i b0 j).length ≤ i + 1 := by
        have := q_d1_len (a0 := a0) (i := i) (b0 := b0) (j := j)
        rw [List.length_append]
        omega
      obtain ⟨M', st', c1, c2, c3⟩ := ih (i + 1) (i + 1) (j + 1) n _ rs9 _ _ (by omega) (by omega) (Nat.le_refl _) (fun t j' ht hj' => hPM.2 i t j j' (by omega) hl hj') (by omega) hdl2 (by rw [List.length_append, hql, List.length_singleton]; omega)
        (k1.frame f1 (by omega)) ((h2.frame a2 (by omega)).frame f1 (by omega)) ((hA.frame a2 (by omega)).frame f1 (by omega)) (a3.frame f1 (by omega)) b1
      refine ⟨M', st', ?_, (a2.trans (f1.mono (by omega) (by omega))).trans c2, c3⟩
      dsimp only [lt_]
      rw [a1]
      dsimp only [Option.bind]
      rw [y4, p_at z0 k1, l_at_nI (by omega), Int32.zero_add, nI_1, nI_1]
      exact c1
theorem p_collect (hy : CmAt Y o) (hPM : PM (lk P) xs.length ys.length) (hPB : PB P xs.length ys.length) {rs9 : List (List Int32)} (h1 : LN M (o + 1) 24 xs) (h2 : LN M (o + 3) 24 ys) (hA : AL M (o + 5) xs.length ys.length P anc rs9) (hT : TB M (o + 16) 100 4 []) (hS : LN M (o + 18) 48 []) :
      ∃ M', s_X1_collectDifferences Y M o = some M' ∧ JFr (o + 16) (o + 20) M M' ∧ TB M' (o + 16) 100 4 (q_diffs (lk P) xs.length ys.length) ∧ LN M' (o + 18) 48 (q_steps xs ys (lk P)) := by
  have hy' := hy
  have h9 := h1.2.1
  have h92 := h2.2.1
  obtain ⟨⟨y0, z0⟩, ⟨y1, z1⟩, -⟩ := hy
  obtain ⟨M1, st', a1, a2, a3, a4, a5, a6, a7, a8⟩ := p_collect_loop hy' hPM hPB xs.length 0 0 0 j_fuel M rs9 [] [] (by omega) (j_fuel_gt (by omega)) (Nat.le_refl _) (fun _ _ _ _ => Nat.zero_le _) (Nat.zero_le _) (Nat.zero_le _) (Nat.zero_le _) h1 h2 hA hT hS
  have k1 := h1.frame a2 (by omega)
  have k2 := h2.frame a2 (by omega)
  have hdl := q_df_len (pt := lk P) xs.length 0 0 0 []
  simp only [List.length_nil] at hdl
  obtain ⟨M2, b1, b2, b3, b4⟩ := p_addDifference hy' a6 (Nat.le_refl _) a7 (Nat.le_refl _) k1 k2 a3 (by omega) a4 (by omega)
  refine ⟨M2, ?_, a2.trans b2, b3, ?_⟩
  · unfold s_X1_collectDifferences
    rw [nI_0] at a1
    rw [a1]
    dsimp only [Option.bind]
    rw [y0, y1, p_size k1, p_size k2, b1]
  · rw [a5] at b4
    exact b4
/-- the comparison that is kept -/
def CM (M : JM) (o : Nat) (mk : Bool) (xs ys : List Int32) (P : List (Nat × Nat)) (anc : Nat) (mv : List (List Int32)) : Prop :=
  M o 8 = (if mk then 1 else 0) ∧ TB M (o + 20) 72 3 mv ∧ M (o + 16) 1 = nI 4 ∧ (∃ rs, rs.length = 25 ∧ TB M (o + 14) 625 25 rs) ∧
    (mk = true → LN M (o + 1) 24 xs ∧ LN M (o + 3) 24 ys ∧ (PS P ∧ PB P xs.length ys.length) ∧ (∃ rs, AL M (o + 5) xs.length ys.length P anc rs) ∧ TB M (o + 16) 100 4 (q_diffs (lk P) xs.length ys.length) ∧ LN M (o + 18) 48 (q_steps xs ys (lk P)))
theorem CM.frame {lo hi : Nat} {M' : JM} {mk : Bool} {mv : List (List Int32)} (h : CM M o mk xs ys P anc mv) (hf : JFr lo hi M M') (hd : o + 26 ≤ lo ∨ hi ≤ o) : CM M' o mk xs ys P anc mv := by
  obtain ⟨h1, h2, h3, ⟨rs, h4, h5⟩, h6⟩ := h
  refine ⟨by rw [hf o (by omega)]; exact h1, h2.frame hf (by omega), by rw [hf (o + 16) (by omega)]; exact h3, ⟨rs, h4, h5.frame hf (by omega)⟩, fun q => ?_⟩
  obtain ⟨a1, a2, a3, ⟨rs9, a4⟩, a5, a6⟩ := h6 q
  exact ⟨a1.frame hf (by omega), a2.frame hf (by omega), a3, ⟨rs9, a4.frame hf (by omega)⟩, a5.frame hf (by omega), a6.frame hf (by omega)⟩
theorem p_make (hy : CmAt Y o) {mk : Bool} {xs0 ys0 : List Int32} {P0 : List (Nat × Nat)} {anc0 : Nat} {mv0 : List (List Int32)} (hC : CM M o mk xs0 ys0 P0 anc0 mv0) {q1 q2 : Nat} (hy1 : LnAt Y q1 24) (hy2 : LnAt Y q2 24) (hd1 : q1 + 2 ≤ o ∨ o + 26 ≤ q1) (hd2 : q2 + 2 ≤ o ∨ o + 26 ≤ q2) (h1 : LN M q1 24 xs) (h2 : LN M q2 24 ys) (mo : Int32) :
      ∃ M', s_X1_make Y M o q1 q2 mo = some (nI (q_align xs ys (decide (mo = 1))).1.length, M') ∧ JFr o (o + 26) M M' ∧ CM M' o true xs ys (q_align xs ys (decide (mo = 1))).1 (q_align xs ys (decide (mo = 1))).2 [] := by
  have hy' := hy
  have h9 := h1.2.1
  have h92 := h2.2.1
  obtain ⟨⟨y0, z0⟩, ⟨y1, z1⟩, ⟨y2, z2⟩, ⟨y3, z3⟩, ⟨y4, z4⟩, ⟨y5, z5⟩, -⟩ := hy
  obtain ⟨c1, c2, c3, ⟨rs, c4, c5⟩, -⟩ := hC
  obtain ⟨M1, a1, a2, a3⟩ := p_become (M := M) z0 hy1 h1 (by omega) h9
  obtain ⟨M2, b1, b2, b3⟩ := p_become (M := M1) z1 hy2 (h2.frame a2 (by omega)) (by omega) h92
  have F2 : JFr (o + 1) (o + 5) M M2 := (a2.mono (by omega) (by omega)).trans (b2.mono (by omega) (by omega))
  have k1 := a3.frame b2 (by omega)
  obtain ⟨M3, rs3, d1, d2, d3⟩ := p_build (M := M2) (o := o + 5) z2 z0 z1 (by omega) (by omega) h9 h92 ⟨rs, c4, c5.frame F2 (by omega)⟩ k1 b3 mo
  have F3 : JFr (o + 1) (o + 16) M M3 := (F2.mono (by omega) (by omega)).trans (d2.mono (by omega) (by omega))
  have l1 := k1.frame d2 (by omega)
  have l2 := b3.frame d2 (by omega)
  have e3 : M3 (o + 16) 1 = nI 4 := by rw [F3 (o + 16) (by omega)]; exact c3
  have t3 := p_tclear (Y := Y) (o := o + 16) (cap := 100) e3
  have f3 := p_tclear_fr (Y := Y) (M := M3) (o := o + 16)
  obtain ⟨M4, hM4⟩ : ∃ z, z = s_X8_clear Y M3 (o + 16) := ⟨_, rfl⟩
  rw [← hM4] at t3 f3
  have t4 := p_clear_LN (Y := Y) (M := M4) (o := o + 18) (cap := 48)
  have f4 := p_clear_fr (Y := Y) (M := M4) (o := o + 18)
  obtain ⟨M5, hM5⟩ : ∃ z, z = s_X4_clear Y M4 (o + 18) := ⟨_, rfl⟩
  rw [← hM5] at t4 f4
  have F5 : JFr (o + 1) (o + 20) M M5 := (F3.mono (by omega) (by omega)).trans ((f3.mono (by omega) (by omega)).trans (f4.mono (by omega) (by omega)))
  have e5 : M5 (o + 20) 1 = nI 3 := by rw [F5 (o + 20) (by omega)]; exact c2.1
  have t5 := p_tclear (Y := Y) (o := o + 20) (cap := 72) e5
  have f5 := p_tclear_fr (Y := Y) (M := M5) (o := o + 20)
  obtain ⟨M6, hM6⟩ : ∃ z, z = s_X8_clear Y M5 (o + 20) := ⟨_, rfl⟩
  rw [← hM6] at t5 f5
  have G : JFr (o + 16) (o + 22) M3 M6 := ((f3.mono (by omega) (by omega)).trans (f4.mono (by omega) (by omega))).trans (f5.mono (by omega) (by omega))
  have hok := q_align_ok xs ys (decide (mo = 1))
  obtain ⟨P, hP⟩ : ∃ z, z = (q_align xs ys (decide (mo = 1))).1 := ⟨_, rfl⟩
  obtain ⟨an, han⟩ : ∃ z, z = (q_align xs ys (decide (mo = 1))).2 := ⟨_, rfl⟩
  rw [← hP] at hok d3 ⊢
  rw [← han] at d3 ⊢
  have hA6 := d3.frame G (by omega)
  obtain ⟨M7, g1, g2, g3, g4⟩ := p_collect hy' (lk_PM hok.1 hok.2) hok.2 (l1.frame G (by omega)) (l2.frame G (by omega)) hA6 ((t3.frame f4 (by omega)).frame f5 (by omega)) (t4.frame f5 (by omega))
  have f8 : JFr o (o + 1) M7 (j_up M7 o 8 1) := JFr.up
  have hA7 := (hA6.frame g2 (by omega)).frame f8 (by omega)
  have FG : JFr (o + 1) (o + 26) M M7 := (F3.mono (by omega) (by omega)).trans ((G.mono (by omega) (by omega)).trans (g2.mono (by omega) (by omega)))
  refine ⟨j_up M7 o 8 1, ?_, (FG.mono (by omega) (Nat.le_refl _)).trans (f8.mono (Nat.le_refl _) (by omega)), j_up_s, (t5.frame g2 (by omega)).frame f8 (by omega), ?_, ⟨rs3, hA7.2.2.2.2.1, hA7.2.2.2.2.2⟩, fun _ => ⟨((l1.frame G (by omega)).frame g2 (by omega)).frame f8 (by omega), ((l2.frame G (by omega)).frame g2 (by omega)).frame f8 (by omega), hok, ⟨rs3, hA7⟩, g3.frame f8 (by omega), g4.frame f8 (by omega)⟩⟩
  · unfold s_X1_make
    rw [y0, y1, y2, y3, y4, y5, a1]
    dsimp only [Option.bind]
    rw [b1]
    dsimp only
    rw [d1]
    dsimp only [lt_]
    rw [← hM4, ← hM5, ← hM6, g1]
    dsimp only
    have e9 : s_X0_pairs Y (j_up M7 o 8 1) (o + 5) = nI P.length := hA7.2.2.1
    rw [e9]
  · rw [f8 (o + 16) (by omega)]
    exact g3.1
end CMS

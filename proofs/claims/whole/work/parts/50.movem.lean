/-! ===== pure: moves; the model ===== -/
def UA (M : JM) (a n : Nat) (f : Nat → Bool) : Prop := ∀ t, t < n → M a t = if f t = true then 0 else 1
theorem UA.eq {M M' : JM} {a n : Nat} {f : Nat → Bool} (h : UA M a n f) (e : M' a = M a) : UA M' a n f := fun t ht => by rw [e]; exact h t ht
theorem UA.congr {M : JM} {a n : Nat} {f g : Nat → Bool} (h : UA M a n f) (e : ∀ t, t < n → f t = g t) : UA M a n g := fun t ht => by rw [← e t ht]; exact h t ht
theorem UA.z {M : JM} {a n : Nat} {f : Nat → Bool} (h : UA M a n f) {t : Nat} (ht : t < n) : M a t = 0 ↔ f t = true := by
  rw [h t ht]
  by_cases q : f t = true
  · rw [if_pos q]; exact ⟨fun _ => q, fun _ => rfl⟩
  · rw [if_neg q]; exact ⟨fun c => absurd c (by decide), fun c => absurd c q⟩
theorem q_mk_s {f : Nat → Bool} {c d : Nat} : q_mk (f_up f c false) (c + 1) d = q_mk f c (d + 1) := by
  funext t
  unfold q_mk
  by_cases q : t = c
  · subst q
    rw [f_up_s]
    simp
  · rw [f_up_n q]
    congr 2
    by_cases q1 : c ≤ t
    · have : c + 1 ≤ t := by omega
      simp [q1, this, show c + 1 + d = c + (d + 1) by omega]
    · have : ¬ c + 1 ≤ t := by omega
      simp [q1, this]
theorem q_mk_0 {f : Nat → Bool} {c : Nat} : q_mk f c 0 = f := by
  funext t
  unfold q_mk
  by_cases q : c ≤ t
  · have q2 : ¬ t < c := by omega
    simp [q2]
  · simp [q]
def q_ct (f : Nat → Bool) : Nat → Nat
  | 0 => 0
  | n + 1 => q_ct f n + if f n = true then 1 else 0
theorem q_ct_le {f g : Nat → Bool} (h : ∀ t, g t = true → f t = true) : ∀ n, q_ct g n ≤ q_ct f n := by
  intro n
  induction n with
  | zero => exact Nat.le_refl _
  | succ n ih =>
    unfold q_ct
    by_cases q : g n = true
    · rw [if_pos q, if_pos (h n q)]; omega
    · rw [if_neg q]; omega
theorem q_ct_lt {f g : Nat → Bool} (h : ∀ t, g t = true → f t = true) {a : Nat} (h1 : f a = true) (h2 : ¬ g a = true) : ∀ n, a < n → q_ct g n < q_ct f n := by
  intro n
  induction n with
  | zero => intro q; exact absurd q (Nat.not_lt_zero _)
  | succ n ih =>
    intro q
    have h3 := q_ct_le h n
    unfold q_ct
    by_cases e : a = n
    · subst e
      rw [if_pos h1, if_neg h2]
      omega
    · have := ih (by omega)
      by_cases q : g n = true
      · rw [if_pos q, if_pos (h n q)]; omega
      · rw [if_neg q]; omega
theorem q_ct_n {f : Nat → Bool} : ∀ n, q_ct f n ≤ n := by
  intro n
  induction n with
  | zero => exact Nat.le_refl _
  | succ n ih =>
    unfold q_ct
    split <;> omega
theorem q_ct_pos {f : Nat → Bool} {a n : Nat} (h : f a = true) (ha : a < n) : 0 < q_ct f n := by
  have := q_ct_lt (f := f) (g := fun _ => false) (fun t c => absurd c (by decide)) h (by decide) n ha
  omega
theorem q_best_at {xs ys : List Int32} {fa fb : Nat → Bool} {mn : Nat} (hm : 1 ≤ mn) (h : mn ≤ (q_best xs ys fa fb).1) : ∃ i j, i < xs.length ∧ j < ys.length ∧ q_best xs ys fa fb = (q_run xs ys fa fb 24 i j, nI i, nI j) ∧ q_mb xs ys fa fb i j := by
  have hs := q_sc1_sr (R := fun i j => q_run xs ys fa fb 24 i j) (n := xs.length) (m := ys.length) hm xs.length 0 (mn - 1, -1, -1) (0, 0, 0) (by omega) (Or.inl ⟨rfl, hm⟩)
  have hb : q_sc1 (fun i j => q_run xs ys fa fb 24 i j) ys.length xs.length 0 (0, 0, 0) = q_best xs ys fa fb := rfl
  rw [hb] at hs
  rcases hs with ⟨c1, c2⟩ | ⟨c1, c2, i, j, hi, hj, c3⟩
  · omega
  · refine ⟨i, j, hi, hj, c1.symm.trans c3, q_run_0 24 i j ?_⟩
    rw [c3] at c2
    dsimp only at c2
    omega
section MMV
variable {Y : JY} {M : JM} {om : Nat} {xs ys : List Int32} {P : List (Nat × Nat)} {anc : Nat} {fa fb : Nat → Bool}
theorem m_lengthFrom (hy : MdAt Y om) (hx24 : xs.length ≤ 24) (hy24 : ys.length ≤ 24) (h27 : M om 27 = nI xs.length) (h29 : M om 29 = nI ys.length) (h15 : RA M (om + 15) xs) (h16 : RA M (om + 16) ys) (hA : UA M (om + 20) xs.length fa) (hB : UA M (om + 21) ys.length fb) {i j : Nat} (hi : i < 100) (hj : j < 100) :
    s_X10_lengthFrom Y M om (nI i) (nI j) = some (nI (q_run xs ys fa fb 24 i j)) := by
  have e26 : j_rf Y om 26 = om + 15 := (hy (26, 15, 24) (by decide)).1
  have e28 : j_rf Y om 28 = om + 16 := (hy (28, 16, 24) (by decide)).1
  have e36 : j_rf Y om 36 = om + 20 := (hy (36, 20, 24) (by decide)).1
  have e37 : j_rf Y om 37 = om + 21 := (hy (37, 21, 24) (by decide)).1
  have l26 : j_ln Y (om + 15) = 24 := (hy (26, 15, 24) (by decide)).2
  have l28 : j_ln Y (om + 16) = 24 := (hy (28, 16, 24) (by decide)).2
  have l36 : j_ln Y (om + 20) = 24 := (hy (36, 20, 24) (by decide)).2
  have l37 : j_ln Y (om + 21) = 24 := (hy (37, 21, 24) (by decide)).2
  have loop : ∀ (d r n : Nat), 24 = r + d → d < n → lp_X10_lengthFrom_1 Y M om (nI i) (nI j) n (nI r) = some (nI (r + q_run xs ys fa fb d (i + r) (j + r))) := by
    intro d
    induction d with
    | zero =>
      intro r n hr hn
      obtain ⟨n, rfl⟩ : ∃ z, n = z + 1 := ⟨n - 1, by omega⟩
      unfold lp_X10_lengthFrom_1
      rw [nI_add, h27, if_pos (Or.inl (nI_le (by omega) (by omega)))]
      rfl
    | succ d ih =>
      intro r n hr hn
      obtain ⟨n, rfl⟩ : ∃ z, n = z + 1 := ⟨n - 1, by omega⟩
      unfold lp_X10_lengthFrom_1 q_run
      rw [nI_add, nI_add, h27, h29, e26, e28, e36, e37, l26, l28, l36, l37]
      simp only [nI_leI (a := xs.length) (b := i + r) (by omega) (by omega), nI_leI (a := ys.length) (b := j + r) (by omega) (by omega)]
      by_cases q1 : xs.length ≤ i + r ∨ ys.length ≤ j + r
      · rw [if_pos q1, if_neg (by rintro ⟨c1, c2, -⟩; omega)]
        rfl
      · have hgi : j_g (nI (i + r)) 24 := j_g_nI (by omega) (by omega)
        have hgj : j_g (nI (j + r)) 24 := j_g_nI (by omega) (by omega)
        rw [if_neg q1, if_pos hgi, if_pos hgj, if_pos hgi, if_pos hgj]
        simp only [nI_clamp (show i + r < 2 ^ 31 by omega), nI_clamp (show j + r < 2 ^ 31 by omega), hA.z (show i + r < xs.length by omega), hB.z (show j + r < ys.length by omega), h15.get' (show i + r < xs.length by omega), h16.get' (show j + r < ys.length by omega)]
        by_cases q2 : q_mb xs ys fa fb (i + r) (j + r)
        · rw [if_pos q2, if_pos q2.2.2.1, if_pos q2.2.2.2.1, if_pos q2.2.2.2.2]
          dsimp only [lt_]
          rw [nI_1, ih (r + 1) n (by omega) (by omega)]
          congr 2
          rw [show i + (r + 1) = i + r + 1 by omega, show j + (r + 1) = j + r + 1 by omega]
          omega
        · rw [if_neg q2]
          by_cases q3 : fa (i + r) = true
          · rw [if_pos q3]
            by_cases q4 : fb (j + r) = true
            · rw [if_pos q4, if_neg (fun c => q2 ⟨by omega, by omega, q3, q4, c⟩)]
              rfl
            · rw [if_neg q4]
              rfl
          · rw [if_neg q3]
            rfl
  unfold s_X10_lengthFrom
  have e := loop 24 0 j_fuel (by omega) (by unfold j_fuel; omega)
  rw [nI_0, Nat.zero_add] at e
  rw [e]
  rfl
theorem m_marks_loop (hy : MdAt Y om) {n m a b s : Nat} (hn24 : n ≤ 24) (hm24 : m ≤ 24) (ha : a + s ≤ n) (hb : b + s ≤ m) :
    ∀ (d k z : Nat) (M : JM) (fa fb : Nat → Bool), s = k + d → d < z → UA M (om + 20) n fa → UA M (om + 21) m fb →
      ∃ M', lp_X10_marks_1 Y (nI s) (nI a) om (nI b) z (nI k) M = some M' ∧ MF om [20, 21] [] M M' ∧ UA M' (om + 20) n (q_mk fa (a + k) d) ∧ UA M' (om + 21) m (q_mk fb (b + k) d) := by
  have e36 : j_rf Y om 36 = om + 20 := (hy (36, 20, 24) (by decide)).1
  have e37 : j_rf Y om 37 = om + 21 := (hy (37, 21, 24) (by decide)).1
  have l36 : j_ln Y (om + 20) = 24 := (hy (36, 20, 24) (by decide)).2
  have l37 : j_ln Y (om + 21) = 24 := (hy (37, 21, 24) (by decide)).2
  have up : ∀ {M : JM} {c n k : Nat} {f : Nat → Bool}, UA M c n f → UA (j_up M c k 1) c n (f_up f k false) := by
    intro M c n k f h t ht
    by_cases e : t = k
    · subst e
      rw [j_up_s, f_up_s]
      rfl
    · rw [j_up_k e, f_up_n e]
      exact h t ht
  intro d
  induction d with
  | zero =>
    intro k z M fa fb hk hz hA hB
    obtain ⟨z, rfl⟩ : ∃ y, z = y + 1 := ⟨z - 1, by omega⟩
    refine ⟨M, ?_, MF.refl, by rw [q_mk_0]; exact hA, by rw [q_mk_0]; exact hB⟩
    unfold lp_X10_marks_1
    rw [if_pos (nI_le (by omega) (by omega))]
  | succ d ih =>
    intro k z M fa fb hk hz hA hB
    obtain ⟨z, rfl⟩ : ∃ y, z = y + 1 := ⟨z - 1, by omega⟩
    have f1 : MF om [20] [] M (j_up M (om + 20) (a + k) 1) := MF.ua
    have f2 : MF om [21] [] (j_up M (om + 20) (a + k) 1) (j_up (j_up M (om + 20) (a + k) 1) (om + 21) (b + k) 1) := MF.ua
    obtain ⟨M', a1, a2, a3, a4⟩ := ih (k + 1) z (j_up (j_up M (om + 20) (a + k) 1) (om + 21) (b + k) 1) (f_up fa (a + k) false) (f_up fb (b + k) false) (by omega) (by omega) ((up hA).eq (f2.arr (t := 20) (by decide) (by decide))) (up (hB.eq (f1.arr (t := 21) (by decide) (by decide))))
    rw [show a + (k + 1) = a + k + 1 by omega, q_mk_s] at a3
    rw [show b + (k + 1) = b + k + 1 by omega, q_mk_s] at a4
    refine ⟨M', ?_, ((f1.mono (by simp) (by simp)).trans (f2.mono (by simp) (by simp))).trans a2, a3, a4⟩
    unfold lp_X10_marks_1
    rw [if_neg (nI_ge (by omega) (by omega)), e36, e37, l36, l37, nI_add, nI_add]
    dsimp only [lt_]
    rw [if_pos (j_g_nI (by omega) (by omega)), if_pos (j_g_nI (by omega) (by omega)), nI_1]
    simp only [nI_clamp (show a + k < 2 ^ 31 by omega), nI_clamp (show b + k < 2 ^ 31 by omega)]
    exact a1
theorem m_marks (hy : MdAt Y om) {n m a b s : Nat} (hn24 : n ≤ 24) (hm24 : m ≤ 24) (ha : a + s ≤ n) (hb : b + s ≤ m) (hA : UA M (om + 20) n fa) (hB : UA M (om + 21) m fb) :
      ∃ M', s_X10_marks Y M om (nI a) (nI b) (nI s) = some M' ∧ MF om [20, 21] [] M M' ∧ UA M' (om + 20) n (q_mk fa a s) ∧ UA M' (om + 21) m (q_mk fb b s) := by
  obtain ⟨M', a1, a2, a3, a4⟩ := m_marks_loop hy hn24 hm24 ha hb s 0 j_fuel M fa fb (by omega) (j_fuel_gt (by omega)) hA hB
  refine ⟨M', ?_, a2, a3, a4⟩
  unfold s_X10_marks
  rw [nI_0] at a1
  rw [a1]
  rfl
theorem m_scan2 (hy : MdAt Y om) (hx24 : xs.length ≤ 24) (hy24 : ys.length ≤ 24) (h27 : M om 27 = nI xs.length) (h29 : M om 29 = nI ys.length) (h15 : RA M (om + 15) xs) (h16 : RA M (om + 16) ys) (hA : UA M (om + 20) xs.length fa) (hB : UA M (om + 21) ys.length fb) {i : Nat} (hi : i < xs.length) :
    ∀ (d j n : Nat) (st : QS), ys.length = j + d → d < n → st.1 ≤ 100 → lp_X10_findMoves_5 Y M om (nI i) n (nI st.1) st.2.1 st.2.2 (nI j) = some (nI (q_sc2 (fun i j => q_run xs ys fa fb 24 i j) i d j st).1, (q_sc2 (fun i j => q_run xs ys fa fb 24 i j) i d j st).2) := by
  intro d
  induction d with
  | zero =>
    intro j n st hj hn hs
    obtain ⟨n, rfl⟩ : ∃ z, n = z + 1 := ⟨n - 1, by omega⟩
    unfold lp_X10_findMoves_5 q_sc2
    rw [h29, if_pos (nI_le (by omega) (by omega))]
  | succ d ih =>
    intro j n st hj hn hs
    obtain ⟨n, rfl⟩ : ∃ z, n = z + 1 := ⟨n - 1, by omega⟩
    unfold lp_X10_findMoves_5 q_sc2
    rw [h29, if_neg (nI_ge (by omega) (by omega)), m_lengthFrom hy hx24 hy24 h27 h29 h15 h16 hA hB (by omega) (by omega)]
    have hq := q_run_le (xs := xs) (ys := ys) (fa := fa) (fb := fb) 24 i j
    dsimp only [Option.bind, lt_]
    rw [nI_1, p_most (by omega) (by omega)]
    by_cases q : q_run xs ys fa fb 24 i j ≤ st.1
    · rw [if_pos (nI_le q (by omega)), if_pos (nI_le q (by omega)), if_pos q, Nat.max_eq_left q]
      exact ih (j + 1) n st (by omega) (by omega) hs
    · rw [if_neg (nI_ge (by omega) (by omega)), if_neg (nI_ge (by omega) (by omega)), if_neg q, Nat.max_eq_right (by omega)]
      exact ih (j + 1) n (q_run xs ys fa fb 24 i j, nI i, nI j) (by omega) (by omega) (by dsimp only; omega)
theorem m_scan1 (hy : MdAt Y om) (hx24 : xs.length ≤ 24) (hy24 : ys.length ≤ 24) (h27 : M om 27 = nI xs.length) (h29 : M om 29 = nI ys.length) (h15 : RA M (om + 15) xs) (h16 : RA M (om + 16) ys) (hA : UA M (om + 20) xs.length fa) (hB : UA M (om + 21) ys.length fb) :
    ∀ (d i n : Nat) (st : QS), xs.length = i + d → d < n → st.1 ≤ 100 → lp_X10_findMoves_4 Y M om n (nI st.1) st.2.1 st.2.2 (nI i) = some (nI (q_sc1 (fun i j => q_run xs ys fa fb 24 i j) ys.length d i st).1, (q_sc1 (fun i j => q_run xs ys fa fb 24 i j) ys.length d i st).2) := by
  intro d
  induction d with
  | zero =>
    intro i n st hi hn hs
    obtain ⟨n, rfl⟩ : ∃ z, n = z + 1 := ⟨n - 1, by omega⟩
    unfold lp_X10_findMoves_4 q_sc1
    rw [h27, if_pos (nI_le (by omega) (by omega))]
  | succ d ih =>
    intro i n st hi hn hs
    obtain ⟨n, rfl⟩ : ∃ z, n = z + 1 := ⟨n - 1, by omega⟩
    have e := m_scan2 hy hx24 hy24 h27 h29 h15 h16 hA hB (show i < xs.length by omega) ys.length 0 j_fuel st (by omega) (j_fuel_gt (by omega)) hs
    rw [nI_0] at e
    unfold lp_X10_findMoves_4 q_sc1
    rw [h27, if_neg (nI_ge (by omega) (by omega)), e]
    dsimp only [Option.bind, lt_]
    rw [nI_1]
    refine ih (i + 1) n _ (by omega) (by omega) (q_sc2_le (fun j => ?_) _ _ _ hs)
    have := q_run_le (xs := xs) (ys := ys) (fa := fa) (fb := fb) 24 i j
    omega
theorem nI_3a (c : Nat) : (3 : Int32) * nI c = nI (3 * c) := by rw [show (3 : Int32) = nI 3 from rfl, nI_mul]
theorem m_moves_loop (hy : MdAt Y om) (hx24 : xs.length ≤ 24) (hy24 : ys.length ≤ 24) {mn : Nat} (hm : 1 ≤ mn) (hm9 : mn ≤ 9) :
    ∀ (d n sz : Nat) (M : JM) (fa fb : Nat → Bool) (mv : List (List Int32)), q_ct fa xs.length ≤ d → d + 1 < n → mn ≤ sz → sz ≤ 24 → mv.length + d ≤ 24 → M om 27 = nI xs.length → M om 29 = nI ys.length → RA M (om + 15) xs → RA M (om + 16) ys → UA M (om + 20) xs.length fa → UA M (om + 21) ys.length fb → M om 33 = nI mv.length → TBm M (om + 18) 3 mv →
      ∃ M', lp_X10_findMoves_3 Y (nI mn) om n (nI sz) M = some M' ∧ MF om [18, 20, 21] [33] M M' ∧ M' om 33 = nI (q_mv xs ys mn d fa fb mv).length ∧ TBm M' (om + 18) 3 (q_mv xs ys mn d fa fb mv) := by
  have e32 : j_rf Y om 32 = om + 18 := (hy (32, 18, 72) (by decide)).1
  have l32 : j_ln Y (om + 18) = 72 := (hy (32, 18, 72) (by decide)).2
  intro d
  induction d with
  | zero =>
    intro n sz M fa fb mv hc hn h1 h2 hl h27 h29 h15 h16 hA hB h33 hT
    obtain ⟨n, rfl⟩ : ∃ z, n = z + 1 := ⟨n - 1, by omega⟩
    obtain ⟨n, rfl⟩ : ∃ z, n = z + 1 := ⟨n - 1, by omega⟩
    have e := m_scan1 hy hx24 hy24 h27 h29 h15 h16 hA hB xs.length 0 j_fuel (0, 0, 0) (by omega) (j_fuel_gt (by omega)) (by decide)
    have hb : q_sc1 (fun i j => q_run xs ys fa fb 24 i j) ys.length xs.length 0 (0, 0, 0) = q_best xs ys fa fb := rfl
    have h0 : (q_best xs ys fa fb).1 = 0 := by
      apply Classical.byContradiction
      intro c
      obtain ⟨i, j, hi, hj, -, hq⟩ := q_best_at (mn := 1) (Nat.le_refl _) (show 1 ≤ (q_best xs ys fa fb).1 by omega)
      have := q_ct_pos hq.2.2.1 hi
      omega
    rw [hb, nI_0] at e
    dsimp only at e
    rw [h0] at e
    refine ⟨M, ?_, MF.refl, h33, hT⟩
    unfold lp_X10_findMoves_3
    rw [if_neg (nI_nlt h1 (by omega))]
    rw [nI_0] at e
    rw [e]
    dsimp only [Option.bind]
    have c0 : (0 : Int32) < nI mn := by rw [← nI_0]; exact nI_lt (by omega) (by omega)
    rw [if_pos c0]
    unfold lp_X10_findMoves_3
    rw [if_pos c0]
  | succ d ih =>
    intro n sz M fa fb mv hc hn h1 h2 hl h27 h29 h15 h16 hA hB h33 hT
    obtain ⟨n, rfl⟩ : ∃ z, n = z + 1 := ⟨n - 1, by omega⟩
    have e := m_scan1 hy hx24 hy24 h27 h29 h15 h16 hA hB xs.length 0 j_fuel (0, 0, 0) (by omega) (j_fuel_gt (by omega)) (by decide)
    have hb : q_sc1 (fun i j => q_run xs ys fa fb 24 i j) ys.length xs.length 0 (0, 0, 0) = q_best xs ys fa fb := rfl
    rw [hb, nI_0] at e
    dsimp only at e
    unfold lp_X10_findMoves_3 q_mv
    rw [if_neg (nI_nlt h1 (by omega))]
    rw [e]
    dsimp only [Option.bind]
    by_cases q : (q_best xs ys fa fb).1 < mn
    · rw [if_pos (nI_lt q (by omega)), if_pos q]
      obtain ⟨n, rfl⟩ : ∃ z, n = z + 1 := ⟨n - 1, by omega⟩
      refine ⟨M, ?_, MF.refl, h33, hT⟩
      unfold lp_X10_findMoves_3
      rw [if_pos (nI_lt q (by omega))]
    · obtain ⟨i, j, hi, hj, hbe, hq⟩ := q_best_at (xs := xs) (ys := ys) (fa := fa) (fb := fb) hm (by omega)
      have hr := q_run_le (xs := xs) (ys := ys) (fa := fa) (fb := fb) 24 i j
      obtain ⟨s, hs⟩ : ∃ z, z = q_run xs ys fa fb 24 i j := ⟨_, rfl⟩
      rw [← hs] at hbe hr
      rw [hbe] at q ⊢
      dsimp only at q ⊢
      rw [if_neg (nI_nlt (by omega) (by omega)), if_neg q, nI_clamp (by omega), nI_clamp (by omega)]
      obtain ⟨M1, a1, a2, a3, a4⟩ := m_marks hy hx24 hy24 (a := i) (b := j) (s := s) (by omega) (by omega) hA hB
      rw [a1, e32, l32]
      dsimp only [Option.bind, lt_]
      have key : ∀ (N : JM) (k : Nat) (v : Int32), j_up N (om + 18) k v om 33 = N om 33 := fun N k v => congrFun (j_up_o (by omega)) 33
      have h33' : M1 om 33 = nI mv.length := by rw [a2.fld (by decide) (by decide)]; exact h33
      simp only [key, h33', nI_3a]
      rw [show nI (3 * mv.length) + (1 : Int32) = nI (3 * mv.length + 1) from nI_add _ 1, show nI (3 * mv.length) + (2 : Int32) = nI (3 * mv.length + 2) from nI_add _ 2]
      have g0 : j_g (nI (3 * mv.length)) 72 := j_g_nI (by omega) (by omega)
      have g1 : j_g (nI (3 * mv.length + 1)) 72 := j_g_nI (by omega) (by omega)
      have g2 : j_g (nI (3 * mv.length + 2)) 72 := j_g_nI (by omega) (by omega)
      simp only [if_pos g0, if_pos g1, if_pos g2, nI_clamp (show 3 * mv.length < 2 ^ 31 by omega), nI_clamp (show 3 * mv.length + 1 < 2 ^ 31 by omega), nI_clamp (show 3 * mv.length + 2 < 2 ^ 31 by omega), nI_1]
      obtain ⟨M2, hM2⟩ : ∃ z, z = j_up (j_up (j_up (j_up M1 (om + 18) (3 * mv.length) (nI i)) (om + 18) (3 * mv.length + 1) (nI j)) (om + 18) (3 * mv.length + 2) (nI s)) om 33 (nI (mv.length + 1)) := ⟨_, rfl⟩
      have F : MF om [18] [33] M1 M2 := by
        rw [hM2]
        refine (((MF.ua.mono ?_ ?_).trans (MF.ua.mono ?_ ?_)).trans (MF.ua.mono ?_ ?_)).trans (MF.uf.mono ?_ ?_) <;> simp
      have G : MF om [18, 20, 21] [33] M M2 := (a2.mono (by simp) (by simp)).trans (F.mono (by simp) (by simp))
      have hT2 : TBm M2 (om + 18) 3 (mv ++ [[nI i, nI j, nI s]]) := by
        have hT1 := hT.eq (a2.arr (t := 18) (by decide) (by decide))
        intro i' hi' j' hj'
        rw [hM2, j_up_o (by omega)]
        by_cases e : i' < mv.length
        · rw [t_at_app e, j_up_k (by omega), j_up_k (by omega), j_up_k (by omega)]
          exact hT1 i' e j' hj'
        · have e2 : i' = mv.length := by simp at hi'; omega
          subst e2
          rw [t_at_last]
          rcases (show j' = 0 ∨ j' = 1 ∨ j' = 2 by omega) with e | e | e
          · subst e
            rw [j_up_k (by omega), j_up_k (by omega)]
            show _ = j_up M1 (om + 18) (3 * mv.length) (nI i) (om + 18) (3 * mv.length)
            rw [j_up_s]
            rfl
          · subst e
            rw [j_up_k (by omega), j_up_s]
            rfl
          · subst e
            rw [j_up_s]
            rfl
      have hlt : q_ct (q_mk fa i s) xs.length < q_ct fa xs.length := q_ct_lt (fun t c => by
        unfold q_mk at c
        rw [Bool.and_eq_true] at c
        exact c.1) hq.2.2.1 (by
        unfold q_mk
        rw [Bool.and_eq_true]
        rintro ⟨-, c⟩
        simp at c
        omega) xs.length hi
      obtain ⟨M', b1, b2, b3, b4⟩ := ih n s M2 (q_mk fa i s) (q_mk fb j s) (mv ++ [[nI i, nI j, nI s]]) (by omega) (by omega) (by omega) (by omega) (by rw [List.length_append, List.length_singleton]; omega)
        (by rw [G.fld (by decide) (by decide)]; exact h27) (by rw [G.fld (by decide) (by decide)]; exact h29) (h15.eq (G.arr (t := 15) (by decide) (by decide))) (h16.eq (G.arr (t := 16) (by decide) (by decide)))
        (a3.eq (F.arr (t := 20) (by decide) (by decide))) (a4.eq (F.arr (t := 21) (by decide) (by decide))) (by rw [hM2, j_up_s, List.length_append, List.length_singleton]) hT2
      rw [← hM2]
      exact ⟨M', b1, G.trans b2, b3, b4⟩
theorem m_clear_loop (hy : MdAt Y om) : ∀ (d i n : Nat) (M : JM), 24 = i + d → d < n → UA M (om + 20) i (fun _ => true) → UA M (om + 21) i (fun _ => true) →
      ∃ M', lp_X10_findMoves_1 Y om n (nI i) M = some M' ∧ MF om [20, 21] [] M M' ∧ UA M' (om + 20) 24 (fun _ => true) ∧ UA M' (om + 21) 24 (fun _ => true) := by
  have e36 : j_rf Y om 36 = om + 20 := (hy (36, 20, 24) (by decide)).1
  have e37 : j_rf Y om 37 = om + 21 := (hy (37, 21, 24) (by decide)).1
  have l36 : j_ln Y (om + 20) = 24 := (hy (36, 20, 24) (by decide)).2
  have l37 : j_ln Y (om + 21) = 24 := (hy (37, 21, 24) (by decide)).2
  have up : ∀ {M : JM} {c k : Nat}, UA M c k (fun _ => true) → UA (j_up M c k 0) c (k + 1) (fun _ => true) := by
    intro M c k h t ht
    by_cases e : t = k
    · subst e
      rw [j_up_s]
      rfl
    · rw [j_up_k e]
      exact h t (by omega)
  intro d
  induction d with
  | zero =>
    intro i n M hi hn hA hB
    obtain ⟨n, rfl⟩ : ∃ z, n = z + 1 := ⟨n - 1, by omega⟩
    have ei : i = 24 := by omega
    subst ei
    refine ⟨M, ?_, MF.refl, hA, hB⟩
    unfold lp_X10_findMoves_1
    rw [if_pos (by decide)]
  | succ d ih =>
    intro i n M hi hn hA hB
    obtain ⟨n, rfl⟩ : ∃ z, n = z + 1 := ⟨n - 1, by omega⟩
    have f1 : MF om [20] [] M (j_up M (om + 20) i 0) := MF.ua
    have f2 : MF om [21] [] (j_up M (om + 20) i 0) (j_up (j_up M (om + 20) i 0) (om + 21) i 0) := MF.ua
    obtain ⟨M', a1, a2, a3, a4⟩ := ih (i + 1) n (j_up (j_up M (om + 20) i 0) (om + 21) i 0) (by omega) (by omega) ((up hA).eq (f2.arr (t := 20) (by decide) (by decide))) (up (hB.eq (f1.arr (t := 21) (by decide) (by decide))))
    refine ⟨M', ?_, ((f1.mono (by simp) (by simp)).trans (f2.mono (by simp) (by simp))).trans a2, a3, a4⟩
    unfold lp_X10_findMoves_1
    have e24 : ¬ (24 : Int32) ≤ nI i := by rw [show (24 : Int32) = nI 24 from rfl]; exact nI_ge (by omega) (by omega)
    have hgi : j_g (nI i) 24 := j_g_nI (by omega) (by omega)
    rw [if_neg e24, e36, e37, l36, l37, if_pos hgi]
    dsimp only [lt_]
    rw [if_pos hgi, nI_1]
    simp only [nI_clamp (show i < 2 ^ 31 by omega)]
    exact a1
theorem m_kept_loop (hy : MdAt Y om) (hx24 : xs.length ≤ 24) (hy24 : ys.length ≤ 24) (hB : PB P xs.length ys.length) : ∀ (d i n : Nat) (M : JM) (fa fb : Nat → Bool), xs.length = i + d → d < n → M om 27 = nI xs.length → PT M (om + 17) P →
      UA M (om + 20) xs.length fa → UA M (om + 21) ys.length fb → (∀ t, fa t = true ↔ ¬ (t < i ∧ lk P t ≠ none)) → (∀ j, fb j = true ↔ ¬ ∃ t, t < i ∧ lk P t = some j) →
      ∃ M' fa' fb', lp_X10_findMoves_2 Y om n (nI i) M = some M' ∧ MF om [20, 21] [] M M' ∧ UA M' (om + 20) xs.length fa' ∧ UA M' (om + 21) ys.length fb' ∧ (∀ t, fa' t = true ↔ ¬ (t < xs.length ∧ lk P t ≠ none)) ∧ (∀ j, fb' j = true ↔ ¬ ∃ t, t < xs.length ∧ lk P t = some j) := by
  have e30 : j_rf Y om 30 = om + 17 := (hy (30, 17, 24) (by decide)).1
  have l30 : j_ln Y (om + 17) = 24 := (hy (30, 17, 24) (by decide)).2
  intro d
  induction d with
  | zero =>
    intro i n M fa fb hi hn h27 hP h1 h2 h3 h4
    obtain ⟨n, rfl⟩ : ∃ z, n = z + 1 := ⟨n - 1, by omega⟩
    have ei : xs.length = i := by omega
    refine ⟨M, fa, fb, ?_, MF.refl, h1, h2, by rw [ei]; exact h3, by rw [ei]; exact h4⟩
    unfold lp_X10_findMoves_2
    rw [h27, if_pos (nI_le (by omega) (by omega))]
  | succ d ih =>
    intro i n M fa fb hi hn h27 hP h1 h2 h3 h4
    obtain ⟨n, rfl⟩ : ∃ z, n = z + 1 := ⟨n - 1, by omega⟩
    have hgi : j_g (nI i) 24 := j_g_nI (by omega) (by omega)
    unfold lp_X10_findMoves_2
    rw [h27, if_neg (nI_ge (by omega) (by omega)), e30, l30, if_pos hgi, if_pos hgi]
    simp only [nI_clamp (show i < 2 ^ 31 by omega), hP i (by omega)]
    cases hl : lk P i with
    | none =>
      rw [if_pos (show oI none < 0 by decide)]
      dsimp only [Option.bind, lt_]
      rw [nI_1]
      refine ih (i + 1) n M fa fb (by omega) (by omega) h27 hP h1 h2 (fun t => (h3 t).trans ?_) (fun j => (h4 j).trans ?_)
      · refine not_congr ⟨fun c => ⟨by omega, c.2⟩, fun c => ⟨?_, c.2⟩⟩
        have : t ≠ i := fun e => c.2 (by rw [e]; exact hl)
        omega
      · refine not_congr ⟨fun ⟨t, a, b⟩ => ⟨t, by omega, b⟩, fun ⟨t, a, b⟩ => ⟨t, ?_, b⟩⟩
        have : t ≠ i := fun e => by rw [e, hl] at b; exact absurd b (by simp)
        omega
    | some j =>
      have hj := lk_lt hB hl
      rw [if_neg (show ¬ oI (some j) < 0 from nI_pos (by omega))]
      obtain ⟨M1, a1, a2, a3, a4⟩ := m_marks hy hx24 hy24 (a := i) (b := j) (s := 1) (by omega) (by omega) h1 h2
      rw [show oI (some j) = nI j from rfl, show (1 : Int32) = nI 1 from rfl, a1]
      dsimp only [Option.bind, lt_]
      rw [show nI i + nI 1 = nI (i + 1) from nI_1 i]
      obtain ⟨M', fa', fb', b1, b2, b3⟩ := ih (i + 1) n M1 _ _ (by omega) (by omega) (by rw [a2.fld (by decide) (by decide)]; exact h27) (hP.eq (a2.arr (t := 17) (by decide) (by decide))) a3 a4 (fun t => by
          unfold q_mk
          rw [Bool.and_eq_true, h3 t]
          constructor
          · rintro ⟨c1, c2⟩ ⟨c3, c4⟩
            simp at c2
            exact c1 ⟨by omega, c4⟩
          · intro c
            refine ⟨fun q => c ⟨by omega, q.2⟩, ?_⟩
            by_cases e : t = i
            · exact absurd ⟨by omega, by rw [e, hl]; simp⟩ c
            · simp
              omega) (fun k => by
          unfold q_mk
          rw [Bool.and_eq_true, h4 k]
          constructor
          · rintro ⟨c1, c2⟩ ⟨t, c3, c4⟩
            simp at c2
            by_cases e : t = i
            · rw [e, hl] at c4
              have := Option.some.inj c4
              omega
            · exact c1 ⟨t, by omega, c4⟩
          · intro c
            refine ⟨fun ⟨t, q1, q2⟩ => c ⟨t, by omega, q2⟩, ?_⟩
            by_cases e : k = j
            · exact absurd ⟨i, by omega, by rw [e]; exact hl⟩ c
            · simp
              omega)
      exact ⟨M', fa', fb', b1, a2.trans b2, b3⟩
theorem lk2_none {P : List (Nat × Nat)} (hS : PS P) {j : Nat} : lk2 P j = none ↔ ¬ ∃ t, lk P t = some j := by
  unfold lk2
  rw [Option.map_eq_none_iff, List.find?_eq_none]
  constructor
  · rintro h ⟨t, ht⟩
    have := h _ ((lk_mem hS).mp ht)
    simp at this
  · intro h p hp q
    have e : p.2 = j := by simpa using q
    exact h ⟨p.1, (lk_mem hS).mpr (by rw [← e]; exact hp)⟩
theorem m_findMoves (hy : MdAt Y om) {mv : List (List Int32)} (hC : CMm M om true xs ys P anc mv) {mn : Nat} (hm : 1 ≤ mn) (hm9 : mn ≤ 9) :
    ∃ M', s_X10_findMoves Y M om (nI mn) = some (nI (q_mv xs ys mn 24 (q_fa P) (q_fb P) []).length, M') ∧ MF om [18, 20, 21] [0, 33] M M' ∧ M' om 0 = 0 ∧ CMm M' om true xs ys P anc (q_mv xs ys mn 24 (q_fa P) (q_fb P) []) := by
  obtain ⟨a1, a2, a3, a4, a5⟩ := hC
  obtain ⟨b1, b2, b3, b4, b5, b6, b7, b8, b9, b10, b11⟩ := a5 rfl
  obtain ⟨M1, c1, c2, c3, c4⟩ := m_clear_loop hy 24 0 j_fuel M (by omega) (by unfold j_fuel; omega) (fun t ht => absurd ht (Nat.not_lt_zero _)) (fun t ht => absurd ht (Nat.not_lt_zero _))
  obtain ⟨M2, fa, fb, d1, d2, d3, d4, d5, d6⟩ := m_kept_loop hy b1 b2 b3.2 xs.length 0 j_fuel M1 (fun _ => true) (fun _ => true) (by omega) (j_fuel_gt (by omega)) (by rw [c2.fld (by decide) (by decide)]; exact b4) (b8.eq (c2.arr (t := 17) (by decide) (by decide)))
    (fun t ht => c3 t (by omega)) (fun t ht => c4 t (by omega)) (fun t => ⟨fun _ c => absurd c.1 (Nat.not_lt_zero _), fun _ => rfl⟩) (fun j => ⟨fun _ ⟨t, c, _⟩ => absurd c (Nat.not_lt_zero _), fun _ => rfl⟩)
  have g1 : UA M2 (om + 20) xs.length (q_fa P) := d3.congr (fun t ht => by
    rw [Bool.eq_iff_iff, d5 t]
    unfold q_fa
    rw [Option.isNone_iff_eq_none]
    exact ⟨fun c => Classical.byContradiction (fun e => c ⟨ht, e⟩), fun c q => q.2 c⟩)
  have g2 : UA M2 (om + 21) ys.length (q_fb P) := d4.congr (fun j hj => by
    rw [Bool.eq_iff_iff, d6 j]
    unfold q_fb
    rw [Option.isNone_iff_eq_none, lk2_none b3.1]
    exact not_congr ⟨fun ⟨t, _, c⟩ => ⟨t, c⟩, fun ⟨t, c⟩ => ⟨t, (lk_lt b3.2 c).2, c⟩⟩)
  have F2 : MF om [20, 21] [] M M2 := c2.trans d2
  have f3 : MF om [] [33] M2 (j_up M2 om 33 0) := MF.uf
  have F3 : MF om [20, 21] [33] M (j_up M2 om 33 0) := (F2.mono (by simp) (by simp)).trans (f3.mono (by simp) (by simp))
  obtain ⟨M4, e1, e2, e3, e4⟩ := m_moves_loop hy b1 b2 hm hm9 24 j_fuel 24 (j_up M2 om 33 0) (q_fa P) (q_fb P) [] (Nat.le_trans (q_ct_n _) b1) (by unfold j_fuel; omega) (by omega) (Nat.le_refl _) (Nat.le_refl _)
    (by rw [F3.fld (by decide) (by decide)]; exact b4) (by rw [F3.fld (by decide) (by decide)]; exact b5) (b6.eq (F3.arr (t := 15) (by decide) (by decide))) (b7.eq (F3.arr (t := 16) (by decide) (by decide)))
    (g1.eq (f3.arr (t := 20) (by decide) (by decide))) (g2.eq (f3.arr (t := 21) (by decide) (by decide))) (by rw [j_up_s]; rfl) (fun i hi => absurd hi (Nat.not_lt_zero _))
  have f5 : MF om [] [0] M4 (j_up M4 om 0 0) := MF.uf
  have F5 : MF om [18, 20, 21] [0, 33] M (j_up M4 om 0 0) := ((F3.mono (by simp) (by simp)).trans (e2.mono (by simp) (by simp))).trans (f5.mono (by simp) (by simp))
  refine ⟨j_up M4 om 0 0, ?_, F5, j_up_s, ?_, ?_, ?_, ?_, fun _ => ⟨b1, b2, b3, ?_, ?_, ?_, ?_, ?_, ?_, ?_, ?_⟩⟩
  · unfold s_X10_findMoves
    rw [if_neg (by
      rw [m_in, show (1 : Int32) = nI 1 from rfl, show (9 : Int32) = nI 9 from rfl, nI_ltI (by omega) (by omega), nI_ltI (by omega) (by omega)]
      omega), a1, if_neg (by decide)]
    rw [nI_0] at c1 d1
    rw [c1]
    dsimp only [Option.bind]
    rw [d1]
    dsimp only [Option.bind, lt_]
    rw [show (24 : Int32) = nI 24 from rfl, e1]
    dsimp only [Option.bind]
    unfold s_X10_done
    dsimp only [lt_]
    rw [e3]
  · rw [F5.fld (by decide) (by decide)]; exact a1
  · rw [f5.fld (by decide) (by decide)]; exact e3
  · exact e4.eq (f5.arr (t := 18) (by decide) (by decide))
  · have := q_mv_len (xs := xs) (ys := ys) (mn := mn) 24 (q_fa P) (q_fb P) []
    simpa using this
  · rw [F5.fld (by decide) (by decide)]; exact b4
  · rw [F5.fld (by decide) (by decide)]; exact b5
  · exact b6.eq (F5.arr (t := 15) (by decide) (by decide))
  · exact b7.eq (F5.arr (t := 16) (by decide) (by decide))
  · exact b8.eq (F5.arr (t := 17) (by decide) (by decide))
  · rw [F5.fld (by decide) (by decide)]; exact b9
  · rw [F5.fld (by decide) (by decide)]; exact b10
  · exact b11.eq (F5.arr (t := 19) (by decide) (by decide))
end MMV

/-! ===== pure: moves; the class ===== -/
abbrev q_mb (xs ys : List Int32) (fa fb : Nat → Bool) (i j : Nat) : Prop := i < xs.length ∧ j < ys.length ∧ fa i = true ∧ fb j = true ∧ (xs[i]?).getD (-1) = (ys[j]?).getD (-1)
def q_run (xs ys : List Int32) (fa fb : Nat → Bool) : Nat → Nat → Nat → Nat
  | 0, _, _ => 0
  | d + 1, i, j => if q_mb xs ys fa fb i j then q_run xs ys fa fb d (i + 1) (j + 1) + 1 else 0
theorem q_run_le {xs ys : List Int32} {fa fb : Nat → Bool} : ∀ (d i j : Nat), q_run xs ys fa fb d i j ≤ xs.length - i ∧ q_run xs ys fa fb d i j ≤ ys.length - j := by
  intro d
  induction d with
  | zero => intro i j; exact ⟨Nat.zero_le _, Nat.zero_le _⟩
  | succ d ih =>
    intro i j
    unfold q_run
    split
    · rename_i h
      have := ih (i + 1) (j + 1)
      have h1 := h.1
      have h2 := h.2.1
      omega
    · exact ⟨Nat.zero_le _, Nat.zero_le _⟩
theorem q_run_0 {xs ys : List Int32} {fa fb : Nat → Bool} : ∀ (d i j : Nat), 0 < q_run xs ys fa fb d i j → q_mb xs ys fa fb i j := by
  intro d i j h
  cases d with
  | zero => exact absurd h (Nat.not_lt_zero _)
  | succ d =>
    unfold q_run at h
    split at h
    · assumption
    · exact absurd h (Nat.not_lt_zero _)
abbrev QS : Type := Nat × Int32 × Int32
def q_sc2 (R : Nat → Nat → Nat) (i : Nat) : Nat → Nat → QS → QS
  | 0, _, st => st
  | d + 1, j, st => q_sc2 R i d (j + 1) (if R i j ≤ st.1 then st else (R i j, nI i, nI j))
def q_sc1 (R : Nat → Nat → Nat) (m : Nat) : Nat → Nat → QS → QS
  | 0, _, st => st
  | d + 1, i, st => q_sc1 R m d (i + 1) (q_sc2 R i m 0 st)
/-- what a search from the least run on and one from nothing share -/
def q_sr (R : Nat → Nat → Nat) (n m mn : Nat) (st st' : QS) : Prop := (st = (mn - 1, -1, -1) ∧ st'.1 < mn) ∨ (st = st' ∧ mn ≤ st.1 ∧ ∃ i j, i < n ∧ j < m ∧ st = (R i j, nI i, nI j))
theorem q_sc2_sr {R : Nat → Nat → Nat} {n m mn i : Nat} (hi : i < n) (hmn : 1 ≤ mn) : ∀ (d j : Nat) (st st' : QS), m = j + d → q_sr R n m mn st st' → q_sr R n m mn (q_sc2 R i d j st) (q_sc2 R i d j st') := by
  intro d
  induction d with
  | zero => intro j st st' _ h; exact h
  | succ d ih =>
    intro j st st' hj h
    refine ih (j + 1) _ _ (by omega) ?_
    rcases h with ⟨h1, h2⟩ | ⟨h1, h2, h3⟩
    · by_cases q : R i j ≤ mn - 1
      · rw [h1, if_pos q]
        refine Or.inl ⟨rfl, ?_⟩
        split
        · exact h2
        · show R i j < mn
          omega
      · rw [h1, if_neg q, if_neg (by omega)]
        exact Or.inr ⟨rfl, by show mn ≤ R i j; omega, i, j, hi, by omega, rfl⟩
    · subst h1
      refine Or.inr ⟨rfl, ?_, ?_⟩
      · split
        · exact h2
        · show mn ≤ R i j
          omega
      · split
        · exact h3
        · exact ⟨i, j, hi, by omega, rfl⟩
theorem q_sc1_sr {R : Nat → Nat → Nat} {n m mn : Nat} (hmn : 1 ≤ mn) : ∀ (d i : Nat) (st st' : QS), n = i + d → q_sr R n m mn st st' → q_sr R n m mn (q_sc1 R m d i st) (q_sc1 R m d i st') := by
  intro d
  induction d with
  | zero => intro i st st' _ h; exact h
  | succ d ih =>
    intro i st st' hi h
    exact ih (i + 1) _ _ (by omega) (q_sc2_sr (by omega) hmn m 0 _ _ (by omega) h)
def q_best (xs ys : List Int32) (fa fb : Nat → Bool) : QS := q_sc1 (fun i j => q_run xs ys fa fb 24 i j) ys.length xs.length 0 (0, 0, 0)
def q_mk (f : Nat → Bool) (a s : Nat) : Nat → Bool := fun t => f t && !(decide (a ≤ t) && decide (t < a + s))
def q_mv (xs ys : List Int32) (mn : Nat) : Nat → (Nat → Bool) → (Nat → Bool) → List (List Int32) → List (List Int32)
  | 0, _, _, acc => acc
  | d + 1, fa, fb, acc => if (q_best xs ys fa fb).1 < mn then acc else q_mv xs ys mn d (q_mk fa (q_best xs ys fa fb).2.1.toNatClampNeg (q_best xs ys fa fb).1) (q_mk fb (q_best xs ys fa fb).2.2.toNatClampNeg (q_best xs ys fa fb).1) (acc ++ [[(q_best xs ys fa fb).2.1, (q_best xs ys fa fb).2.2, nI (q_best xs ys fa fb).1]])
theorem q_mv_len {xs ys : List Int32} {mn : Nat} : ∀ (d : Nat) (fa fb : Nat → Bool) (acc : List (List Int32)), (q_mv xs ys mn d fa fb acc).length ≤ acc.length + d := by
  intro d
  induction d with
  | zero => intro _ _ acc; exact Nat.le_refl _
  | succ d ih =>
    intro fa fb acc
    unfold q_mv
    split
    · omega
    · refine Nat.le_trans (ih _ _ _) ?_
      rw [List.length_append, List.length_singleton]
      omega
def q_fl (n : Nat) (f : Nat → Bool) : List Int32 := l_of n (fun i => if f i = true then 1 else 0)
theorem q_fl_len {n : Nat} {f : Nat → Bool} : (q_fl n f).length = n := l_of_len
theorem q_fl_at {n i : Nat} {f : Nat → Bool} (hn : n < 1000) (hi : i < 2 ^ 31) : l_at (q_fl n f) (nI i) = 1 ↔ i < n ∧ f i = true := by
  by_cases h : i < n
  · unfold q_fl
    rw [l_of_at h hi]
    by_cases q : f i = true
    · rw [if_pos q]
      exact ⟨fun _ => ⟨h, q⟩, fun _ => rfl⟩
    · rw [if_neg q]
      exact ⟨fun c => absurd c (by decide), fun c => absurd c.2 q⟩
  · rw [l_at_ge hi (by rw [q_fl_len]; omega)]
    exact ⟨fun c => absurd c (by decide), fun c => absurd c.1 h⟩
theorem q_fl_set {n i : Nat} {f : Nat → Bool} : (q_fl n f).set i 0 = q_fl n (f_up f i false) := by
  unfold q_fl
  rw [l_of_set]
  refine l_of_congr (fun t _ => ?_)
  by_cases e : t = i
  · rw [e, f_up_s, f_up_s]
    rfl
  · rw [f_up_n e, f_up_n e]
section CMV
variable {Y : JY} {M : JM} {o : Nat} {xs ys : List Int32} {P : List (Nat × Nat)} {anc : Nat} {fa fb : Nat → Bool}
theorem p_isMovable (hy : CmAt Y o) (h1 : LN M (o + 1) 24 xs) (h2 : LN M (o + 3) 24 ys) (h3 : LN M (o + 22) 24 (q_fl xs.length fa)) (h4 : LN M (o + 24) 24 (q_fl ys.length fb)) {i j : Nat} (hi : i < 2 ^ 31) (hj : j < 2 ^ 31) :
    s_X1_isMovable Y M o (nI i) (nI j) = 0 ↔ ¬ q_mb xs ys fa fb i j := by
  have e1 := h1.2.1
  have e2 := h2.2.1
  obtain ⟨⟨y0, z0⟩, ⟨y1, z1⟩, -, -, -, -, ⟨y6, z6⟩, ⟨y7, z7⟩⟩ := hy
  unfold s_X1_isMovable
  rw [y0, y1, y6, y7, p_at z0 h1, p_at z1 h2, p_at z6 h3, p_at z7 h4]
  simp only [q_fl_at (n := xs.length) (f := fa) (by omega) hi, q_fl_at (n := ys.length) (f := fb) (by omega) hj]
  simp only [l_at_nI hi, l_at_nI hj]
  split
  · rename_i c
    refine ⟨fun _ q => ?_, fun _ => rfl⟩
    rcases c with c | c | c
    · exact c ⟨q.1, q.2.2.1⟩
    · exact c ⟨q.2.1, q.2.2.2.1⟩
    · exact c q.2.2.2.2
  · rename_i c
    refine ⟨fun q => absurd q (by decide), fun q => absurd ?_ q⟩
    have c1 := Classical.not_not.mp (fun e => c (Or.inl e))
    have c2 := Classical.not_not.mp (fun e => c (Or.inr (Or.inl e)))
    have c3 := Classical.not_not.mp (fun e => c (Or.inr (Or.inr e)))
    exact ⟨c1.1, c2.1, c1.2, c2.2, c3⟩
theorem p_runLength (hy : CmAt Y o) (h1 : LN M (o + 1) 24 xs) (h2 : LN M (o + 3) 24 ys) (h3 : LN M (o + 22) 24 (q_fl xs.length fa)) (h4 : LN M (o + 24) 24 (q_fl ys.length fb)) {i j : Nat} (hi : i < 100) (hj : j < 100) :
    s_X1_runLength Y M o (nI i) (nI j) = some (nI (q_run xs ys fa fb 24 i j)) := by
  have loop : ∀ (d r n : Nat), 24 = r + d → d < n → lp_X1_runLength_1 Y M o (nI i) (nI j) n (nI r) = some (nI (r + q_run xs ys fa fb d (i + r) (j + r))) := by
    intro d
    induction d with
    | zero =>
      intro r n hr hn
      obtain ⟨n, rfl⟩ : ∃ z, n = z + 1 := ⟨n - 1, by omega⟩
      unfold lp_X1_runLength_1
      rw [if_pos (Or.inl (by rw [show (24 : Int32) = nI 24 from rfl]; exact nI_le (by omega) (by omega)))]
      rfl
    | succ d ih =>
      intro r n hr hn
      obtain ⟨n, rfl⟩ : ∃ z, n = z + 1 := ⟨n - 1, by omega⟩
      unfold lp_X1_runLength_1 q_run
      rw [nI_add, nI_add]
      have hmv := p_isMovable hy h1 h2 h3 h4 (i := i + r) (j := j + r) (by omega) (by omega)
      have e : ¬ (24 : Int32) ≤ nI r := by rw [show (24 : Int32) = nI 24 from rfl]; exact nI_ge (by omega) (by omega)
      by_cases q : q_mb xs ys fa fb (i + r) (j + r)
      · rw [if_neg (by rintro (c | c); exact e c; exact hmv.mp c q), if_pos q]
        dsimp only [lt_]
        rw [nI_1, ih (r + 1) n (by omega) (by omega)]
        congr 2
        rw [show i + (r + 1) = i + r + 1 by omega, show j + (r + 1) = j + r + 1 by omega]
        omega
      · rw [if_pos (Or.inr (hmv.mpr q)), if_neg q]
        rfl
  unfold s_X1_runLength
  have e := loop 24 0 j_fuel (by omega) (by unfold j_fuel; omega)
  rw [nI_0, Nat.zero_add] at e
  rw [e]
  rfl
theorem p_scan2 (hy : CmAt Y o) (h1 : LN M (o + 1) 24 xs) (h2 : LN M (o + 3) 24 ys) (h3 : LN M (o + 22) 24 (q_fl xs.length fa)) (h4 : LN M (o + 24) 24 (q_fl ys.length fb)) {i : Nat} (hi : i < xs.length) :
    ∀ (d j n : Nat) (st : QS), ys.length = j + d → d < n → st.1 ≤ 100 → lp_X1_addLongestMove_2 Y M o (nI i) n (nI st.1) st.2.1 st.2.2 (nI j) = some (nI (q_sc2 (fun i j => q_run xs ys fa fb 24 i j) i d j st).1, (q_sc2 (fun i j => q_run xs ys fa fb 24 i j) i d j st).2) := by
  have e1 := h1.2.1
  have e2 := h2.2.1
  have y1 := hy.2.1.1
  intro d
  induction d with
  | zero =>
    intro j n st hj hn hs
    obtain ⟨n, rfl⟩ : ∃ z, n = z + 1 := ⟨n - 1, by omega⟩
    unfold lp_X1_addLongestMove_2 q_sc2
    rw [y1, p_size h2, if_pos (nI_le (by omega) (by omega))]
  | succ d ih =>
    intro j n st hj hn hs
    obtain ⟨n, rfl⟩ : ∃ z, n = z + 1 := ⟨n - 1, by omega⟩
    unfold lp_X1_addLongestMove_2 q_sc2
    rw [y1, p_size h2, if_neg (nI_ge (by omega) (by omega)), p_runLength hy h1 h2 h3 h4 (by omega) (by omega)]
    have hq := q_run_le (xs := xs) (ys := ys) (fa := fa) (fb := fb) 24 i j
    dsimp only [Option.bind, lt_]
    rw [nI_1]
    by_cases q : q_run xs ys fa fb 24 i j ≤ st.1
    · rw [if_pos (nI_le q (by omega)), if_pos q]
      exact ih (j + 1) n st (by omega) (by omega) hs
    · rw [if_neg (nI_ge (by omega) (by omega)), if_neg q]
      exact ih (j + 1) n (q_run xs ys fa fb 24 i j, nI i, nI j) (by omega) (by omega) (by dsimp only; omega)
theorem q_sc2_le {R : Nat → Nat → Nat} {i : Nat} (hR : ∀ j, R i j ≤ 100) : ∀ (d j : Nat) (st : QS), st.1 ≤ 100 → (q_sc2 R i d j st).1 ≤ 100 := by
  intro d
  induction d with
  | zero => intro j st h; exact h
  | succ d ih =>
    intro j st h
    unfold q_sc2
    refine ih (j + 1) _ ?_
    split
    · exact h
    · exact hR j
theorem p_scan1 (hy : CmAt Y o) (h1 : LN M (o + 1) 24 xs) (h2 : LN M (o + 3) 24 ys) (h3 : LN M (o + 22) 24 (q_fl xs.length fa)) (h4 : LN M (o + 24) 24 (q_fl ys.length fb)) :
    ∀ (d i n : Nat) (st : QS), xs.length = i + d → d < n → st.1 ≤ 100 → lp_X1_addLongestMove_1 Y M o n (nI st.1) st.2.1 st.2.2 (nI i) = some (nI (q_sc1 (fun i j => q_run xs ys fa fb 24 i j) ys.length d i st).1, (q_sc1 (fun i j => q_run xs ys fa fb 24 i j) ys.length d i st).2) := by
  have e1 := h1.2.1
  have e2 := h2.2.1
  have y0 := hy.1.1
  intro d
  induction d with
  | zero =>
    intro i n st hi hn hs
    obtain ⟨n, rfl⟩ : ∃ z, n = z + 1 := ⟨n - 1, by omega⟩
    unfold lp_X1_addLongestMove_1 q_sc1
    rw [y0, p_size h1, if_pos (nI_le (by omega) (by omega))]
  | succ d ih =>
    intro i n st hi hn hs
    obtain ⟨n, rfl⟩ : ∃ z, n = z + 1 := ⟨n - 1, by omega⟩
    have e := p_scan2 hy h1 h2 h3 h4 (show i < xs.length by omega) ys.length 0 j_fuel st (by omega) (j_fuel_gt (by omega)) hs
    rw [nI_0] at e
    unfold lp_X1_addLongestMove_1 q_sc1
    rw [y0, p_size h1, if_neg (nI_ge (by omega) (by omega)), e]
    dsimp only [Option.bind, lt_]
    rw [nI_1]
    refine ih (i + 1) n _ (by omega) (by omega) (q_sc2_le (fun j => ?_) _ _ _ hs)
    have := q_run_le (xs := xs) (ys := ys) (fa := fa) (fb := fb) 24 i j
    omega
theorem p_addMove_loop (hy : CmAt Y o) {a b s : Nat} (hxl : xs.length ≤ 24) (hyl : ys.length ≤ 24) (ha : a + s ≤ xs.length) (hb : b + s ≤ ys.length) :
    ∀ (d k n : Nat) (M : JM) (fa fb : Nat → Bool), s = k + d → d < n → LN M (o + 22) 24 (q_fl xs.length fa) → LN M (o + 24) 24 (q_fl ys.length fb) →
      ∃ M', lp_X1_addMove_1 Y (nI s) o (nI a) (nI b) n (nI k) M = some M' ∧ JFr (o + 22) (o + 26) M M' ∧ LN M' (o + 22) 24 (q_fl xs.length (q_mk fa (a + k) d)) ∧ LN M' (o + 24) 24 (q_fl ys.length (q_mk fb (b + k) d)) := by
  obtain ⟨-, -, -, -, -, -, ⟨y6, z6⟩, ⟨y7, z7⟩⟩ := hy
  intro d
  induction d with
  | zero =>
    intro k n M fa fb hk hn h3 h4
    obtain ⟨n, rfl⟩ : ∃ z, n = z + 1 := ⟨n - 1, by omega⟩
    have e : ∀ (f : Nat → Bool) (c : Nat), q_mk f c 0 = f := by
      intro f c
      funext t
      unfold q_mk
      by_cases q : c ≤ t
      · have q2 : ¬ t < c := by omega
        simp [q2]
      · simp [q]
    refine ⟨M, ?_, JFr.refl, by rw [e]; exact h3, by rw [e]; exact h4⟩
    unfold lp_X1_addMove_1
    rw [if_pos (nI_le (by omega) (by omega))]
  | succ d ih =>
    intro k n M fa fb hk hn h3 h4
    obtain ⟨n, rfl⟩ : ∃ z, n = z + 1 := ⟨n - 1, by omega⟩
    have r1 := p_put_LN z6 h3 (j := a + k) (by rw [q_fl_len]; omega) 0
    have r2 := p_put_fr z6 h3 (j := a + k) (by rw [q_fl_len]; omega) 0
    rw [q_fl_set] at r1
    have h4' := h4.frame r2 (by omega)
    have r3 := p_put_LN z7 h4' (j := b + k) (by rw [q_fl_len]; omega) 0
    have r4 := p_put_fr z7 h4' (j := b + k) (by rw [q_fl_len]; omega) 0
    rw [q_fl_set] at r3
    obtain ⟨M', a1, a2, a3, a4⟩ := ih (k + 1) n _ _ _ (by omega) (by omega) (r1.frame r4 (by omega)) r3
    have e : ∀ (f : Nat → Bool) (c : Nat), q_mk (f_up f c false) (c + 1) d = q_mk f c (d + 1) := by
      intro f c
      funext t
      unfold q_mk
      by_cases q : t = c
      · subst q
        rw [f_up_s]
        simp
      · rw [f_up_n q]
        congr 2
        by_cases q1 : c ≤ t
        · have : c + 1 ≤ t := by omega
          simp [q1, this, show c + 1 + d = c + (d + 1) by omega]
        · have : ¬ c + 1 ≤ t := by omega
          simp [q1, this]
    rw [show a + (k + 1) = a + k + 1 by omega, e] at a3
    rw [show b + (k + 1) = b + k + 1 by omega, e] at a4
    refine ⟨M', ?_, (r2.mono (by omega) (by omega)).trans ((r4.mono (by omega) (by omega)).trans a2), a3, a4⟩
    unfold lp_X1_addMove_1
    rw [if_neg (nI_ge (by omega) (by omega)), y6, y7]
    dsimp only [lt_]
    rw [nI_add, nI_add, nI_1]
    exact a1
theorem p_addMove (hy : CmAt Y o) {a b s : Nat} (hxl : xs.length ≤ 24) (hyl : ys.length ≤ 24) (ha : a + s ≤ xs.length) (hb : b + s ≤ ys.length) (h3 : LN M (o + 22) 24 (q_fl xs.length fa)) (h4 : LN M (o + 24) 24 (q_fl ys.length fb)) {mv : List (List Int32)} (hT : TB M (o + 20) 72 3 mv) (hl : mv.length < 24) :
    ∃ M', s_X1_addMove Y M o (nI a) (nI b) (nI s) = some M' ∧ JFr (o + 20) (o + 26) M M' ∧ LN M' (o + 22) 24 (q_fl xs.length (q_mk fa a s)) ∧ LN M' (o + 24) 24 (q_fl ys.length (q_mk fb b s)) ∧ TB M' (o + 20) 72 3 (mv ++ [[nI a, nI b, nI s]]) := by
  have hy' := hy
  obtain ⟨-, -, -, -, -, ⟨y5, z5⟩, -⟩ := hy
  obtain ⟨M1, a1, a2, a3⟩ := p_addRow z5 (by decide) hT (by omega)
  have hq : ∀ r : List Int32, mv.length < (mv ++ [r]).length := fun r => by simp
  have t0 := p_tput_TB z5 (by decide) a3 (hq _) (show 0 < 3 by decide) (nI a)
  have f0 := p_tput_fr z5 (by decide) a3 (hq _) (show 0 < 3 by decide) (nI a)
  rw [t_put_last] at t0
  have t1 := p_tput_TB z5 (by decide) t0 (hq _) (show 1 < 3 by decide) (nI b)
  have f1 := p_tput_fr z5 (by decide) t0 (hq _) (show 1 < 3 by decide) (nI b)
  rw [t_put_last] at t1
  have t2 := p_tput_TB z5 (by decide) t1 (hq _) (show 2 < 3 by decide) (nI s)
  have f2 := p_tput_fr z5 (by decide) t1 (hq _) (show 2 < 3 by decide) (nI s)
  rw [t_put_last] at t2
  have F := ((a2.trans f0).trans f1).trans f2
  obtain ⟨M', b1, b2, b3, b4⟩ := p_addMove_loop hy' hxl hyl ha hb s 0 j_fuel _ fa fb (by omega) (j_fuel_gt (by omega)) (h3.frame F (by omega)) (h4.frame F (by omega))
  refine ⟨M', ?_, (F.mono (by omega) (by omega)).trans (b2.mono (by omega) (by omega)), b3, b4, t2.frame b2 (by omega)⟩
  unfold s_X1_addMove
  rw [y5, a1]
  dsimp only [Option.bind, lt_]
  rw [show nI 0 = (0 : Int32) from rfl, show nI 1 = (1 : Int32) from rfl, show nI 2 = (2 : Int32) from rfl] at b1
  rw [b1]
theorem p_addLongestMove (hy : CmAt Y o) (h1 : LN M (o + 1) 24 xs) (h2 : LN M (o + 3) 24 ys) (h3 : LN M (o + 22) 24 (q_fl xs.length fa)) (h4 : LN M (o + 24) 24 (q_fl ys.length fb)) {mv : List (List Int32)} (hT : TB M (o + 20) 72 3 mv) (hl : mv.length < 24) {mn : Nat} (hm : 1 ≤ mn) (hm9 : mn ≤ 9) :
    ∃ M', s_X1_addLongestMove Y M o (nI mn) = some (if (q_best xs ys fa fb).1 < mn then 0 else 1, M') ∧ JFr (o + 20) (o + 26) M M' ∧
      ((q_best xs ys fa fb).1 < mn → TB M' (o + 20) 72 3 mv) ∧
      (¬ (q_best xs ys fa fb).1 < mn → LN M' (o + 22) 24 (q_fl xs.length (q_mk fa (q_best xs ys fa fb).2.1.toNatClampNeg (q_best xs ys fa fb).1)) ∧ LN M' (o + 24) 24 (q_fl ys.length (q_mk fb (q_best xs ys fa fb).2.2.toNatClampNeg (q_best xs ys fa fb).1)) ∧ TB M' (o + 20) 72 3 (mv ++ [[(q_best xs ys fa fb).2.1, (q_best xs ys fa fb).2.2, nI (q_best xs ys fa fb).1]])) := by
  have e1 := h1.2.1
  have e2 := h2.2.1
  have e := p_scan1 hy h1 h2 h3 h4 xs.length 0 j_fuel (mn - 1, -1, -1) (by omega) (j_fuel_gt (by omega)) (by dsimp only; omega)
  have hs := q_sc1_sr (R := fun i j => q_run xs ys fa fb 24 i j) (n := xs.length) (m := ys.length) hm xs.length 0 (mn - 1, -1, -1) (0, 0, 0) (by omega) (Or.inl ⟨rfl, hm⟩)
  have hb : q_sc1 (fun i j => q_run xs ys fa fb 24 i j) ys.length xs.length 0 (0, 0, 0) = q_best xs ys fa fb := rfl
  rw [hb] at hs
  unfold s_X1_addLongestMove
  rw [show nI mn - (1 : Int32) = nI (mn - 1) by rw [show mn = (mn - 1) + 1 by omega, nI_pd]; rfl]
  dsimp only [lt_]
  rw [nI_0] at e
  dsimp only at e
  rw [e]
  rcases hs with ⟨c1, c2⟩ | ⟨c1, c2, i, j, hi, hj, c3⟩
  · rw [c1]
    dsimp only [Option.bind]
    rw [if_pos rfl, if_pos c2]
    exact ⟨M, rfl, JFr.refl, fun _ => hT, fun c => absurd c2 c⟩
  · rw [c1] at c2 c3 ⊢
    have hn : ¬ (q_best xs ys fa fb).1 < mn := by omega
    have hr := q_run_le (xs := xs) (ys := ys) (fa := fa) (fb := fb) 24 i j
    dsimp only at c3
    obtain ⟨M', a1, a2, a3, a4, a5⟩ := p_addMove hy e1 e2 (a := i) (b := j) (s := q_run xs ys fa fb 24 i j) (by omega) (by omega) h3 h4 hT hl
    dsimp only [Option.bind]
    rw [if_neg hn, c3]
    dsimp only
    rw [if_neg (nI_m1 (by omega)), a1]
    rw [c3] at hn
    refine ⟨M', rfl, a2, fun c => absurd c hn, fun _ => ?_⟩
    rw [nI_clamp (by omega), nI_clamp (by omega)]
    exact ⟨a3, a4, a5⟩
end CMV

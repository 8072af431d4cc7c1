/-! ===== pure: merges; the class's result ===== -/
def k_out (bs ls rs : List Int32) (c : CK) (v : Int32) : List Int32 :=
  if c.1 = 4 then (if v = 0 then l_seg ls c.2.2.2.1 c.2.2.2.2.1 else if v = 1 then l_seg rs c.2.2.2.2.2.1 c.2.2.2.2.2.2 else if v = 2 then l_seg ls c.2.2.2.1 c.2.2.2.2.1 ++ l_seg rs c.2.2.2.2.2.1 c.2.2.2.2.2.2
    else if v = 3 then l_seg rs c.2.2.2.2.2.1 c.2.2.2.2.2.2 ++ l_seg ls c.2.2.2.1 c.2.2.2.2.1 else if v = 4 then l_seg bs c.2.1 c.2.2.1 else [-1] ++ l_seg ls c.2.2.2.1 c.2.2.2.2.1 ++ [-2] ++ l_seg rs c.2.2.2.2.2.1 c.2.2.2.2.2.2 ++ [-3])
  else if c.1 = 2 then l_seg rs c.2.2.2.2.2.1 c.2.2.2.2.2.2 else l_seg ls c.2.2.2.1 c.2.2.2.2.1
def k_res (bs ls rs : List Int32) (cf : Nat → Int32) : Nat → List CK → List Int32
  | _, [] => []
  | r, c :: cs => k_out bs ls rs c (cf r) ++ k_res bs ls rs cf (r + 1) cs
def k_tb (cf : Nat → Int32) : Nat → List CK → List (List Int32)
  | _, [] => []
  | r, c :: cs => k_r8 c (cf r) :: k_tb cf (r + 1) cs
theorem k_tb_len {cf : Nat → Int32} : ∀ (cs : List CK) (r : Nat), (k_tb cf r cs).length = cs.length := by
  intro cs
  induction cs with
  | nil => intro r; rfl
  | cons c cs ih =>
    intro r
    show (k_tb cf (r + 1) cs).length + 1 = _
    rw [ih]
    rfl
theorem k_tb_get {cf : Nat → Int32} : ∀ (cs : List CK) (r i : Nat) (c : CK), cs[i]? = some c → (k_tb cf r cs)[i]? = some (k_r8 c (cf (r + i))) := by
  intro cs
  induction cs with
  | nil => intro r i c h; exact absurd h (by simp)
  | cons c' cs ih =>
    intro r i c h
    cases i with
    | zero =>
      have : c' = c := by simpa using h
      rw [this]
      rfl
    | succ i =>
      have := ih (r + 1) i c (by simpa using h)
      rw [show r + (i + 1) = r + 1 + i by omega, ← this]
      rfl
theorem k_tb_m1 {cs : List CK} : ∀ (r : Nat), k_tb (fun _ => -1) r cs = cs.map k_F := by
  induction cs with
  | nil => intro r; rfl
  | cons c cs ih =>
    intro r
    show _ :: k_tb _ (r + 1) cs = _
    rw [ih]
    rfl
theorem l_seg_le {xs : List Int32} {b e : Nat} : (l_seg xs b e).length ≤ e - b := by
  unfold l_seg
  rw [List.length_take]
  exact Nat.min_le_left _ _
theorem k_out_len {bs ls rs : List Int32} {c : CK} {v : Int32} : (k_out bs ls rs c v).length ≤ (if c.1 = 4 then 3 else 0) + ((c.2.2.1 - c.2.1) + (c.2.2.2.2.1 - c.2.2.2.1) + (c.2.2.2.2.2.2 - c.2.2.2.2.2.1)) := by
  have h1 := l_seg_le (xs := bs) (b := c.2.1) (e := c.2.2.1)
  have h2 := l_seg_le (xs := ls) (b := c.2.2.2.1) (e := c.2.2.2.2.1)
  have h3 := l_seg_le (xs := rs) (b := c.2.2.2.2.2.1) (e := c.2.2.2.2.2.2)
  unfold k_out
  by_cases q : c.1 = 4
  · rw [if_pos q, if_pos q]
    repeat' split
    all_goals (try simp only [List.length_append, List.length_singleton])
    all_goals omega
  · rw [if_neg q, if_neg q]
    split <;> omega
theorem k_res_len {bs ls rs : List Int32} {cf : Nat → Int32} : ∀ (cs : List CK) (r : Nat), (k_res bs ls rs cf r cs).length ≤ 3 * (k_cr r cs).length + k_sz cs := by
  intro cs
  induction cs with
  | nil => intro r; exact Nat.zero_le _
  | cons c cs ih =>
    intro r
    have h1 := ih (r + 1)
    have h2 := k_out_len (bs := bs) (ls := ls) (rs := rs) (c := c) (v := cf r)
    show (k_out bs ls rs c (cf r) ++ k_res bs ls rs cf (r + 1) cs).length ≤ _
    rw [List.length_append, k_sz_c, k_cr_c]
    by_cases q : c.1 = 4
    · rw [if_pos q] at h2 ⊢
      rw [List.length_cons]
      omega
    · rw [if_neg q] at h2 ⊢
      omega
section MGX
variable {Y : JY} {M : JM} {o : Nat} {bs ls rs : List Int32} {cs : List CK} {cf : Nat → Int32} {acc : List Int32}
theorem p_ck (hy : MgAt Y o) (h : TB M (o + 29) 800 8 (k_tb cf 0 cs)) {r : Nat} {c : CK} (hc : cs[r]? = some c) (hl : cs.length ≤ 100) {j : Nat} (hj : j < 8) : s_X8_at Y M (o + 29) (nI r) (nI j) = ((k_r8 c (cf r))[j]?).getD (-1) := by
  obtain ⟨-, -, -, -, -, ⟨y5, z5⟩, -⟩ := hy
  have hr : r < cs.length := by
    apply Classical.byContradiction
    intro q
    rw [List.getElem?_eq_none (by omega)] at hc
    exact absurd hc (by simp)
  rw [p_tat z5 (by decide) (by decide) h (by omega) (by omega)]
  unfold t_at
  rw [k_tb_get cs 0 r c hc, Nat.zero_add]
  rfl
theorem p_writeLeft (hy : MgAt Y o) (h2 : LN M (o + 3) 24 ls) (h : TB M (o + 29) 800 8 (k_tb cf 0 cs)) {r : Nat} {c : CK} (hc : cs[r]? = some c) (hl : cs.length ≤ 100) {n m q : Nat} (hv : CV n ls.length q c) (hA : LN M (o + 33) 192 acc) (ha : acc.length + (c.2.2.2.2.1 - c.2.2.2.1) ≤ 192) :
    ∃ M', s_X5_writeLeft Y M o (nI r) = some M' ∧ JFr (o + 33) (o + 35) M M' ∧ LN M' (o + 33) 192 (acc ++ l_seg ls c.2.2.2.1 c.2.2.2.2.1) := by
  have g3 : s_X8_at Y M (o + 29) (nI r) (3 : Int32) = nI c.2.2.2.1 := p_ck hy h hc hl (show 3 < 8 by decide)
  have g4 : s_X8_at Y M (o + 29) (nI r) (4 : Int32) = nI c.2.2.2.2.1 := p_ck hy h hc hl (show 4 < 8 by decide)
  obtain ⟨-, ⟨y1, z1⟩, -, -, -, ⟨y5, z5⟩, -, ⟨y7, z7⟩⟩ := hy
  obtain ⟨M', a1, a2, a3⟩ := p_pushPart z7 hA z1 h2 (by omega) hv.2.2.1.1 hv.2.2.1.2 ha
  refine ⟨M', ?_, a2, a3⟩
  unfold s_X5_writeLeft
  rw [y1, y5, y7, g3, g4, a1]
  rfl
theorem p_writeRight (hy : MgAt Y o) (h3 : LN M (o + 5) 24 rs) (h : TB M (o + 29) 800 8 (k_tb cf 0 cs)) {r : Nat} {c : CK} (hc : cs[r]? = some c) (hl : cs.length ≤ 100) {n m q : Nat} (hv : CV n m rs.length c) (hA : LN M (o + 33) 192 acc) (ha : acc.length + (c.2.2.2.2.2.2 - c.2.2.2.2.2.1) ≤ 192) :
    ∃ M', s_X5_writeRight Y M o (nI r) = some M' ∧ JFr (o + 33) (o + 35) M M' ∧ LN M' (o + 33) 192 (acc ++ l_seg rs c.2.2.2.2.2.1 c.2.2.2.2.2.2) := by
  have g5 : s_X8_at Y M (o + 29) (nI r) (5 : Int32) = nI c.2.2.2.2.2.1 := p_ck hy h hc hl (show 5 < 8 by decide)
  have g6 : s_X8_at Y M (o + 29) (nI r) (6 : Int32) = nI c.2.2.2.2.2.2 := p_ck hy h hc hl (show 6 < 8 by decide)
  obtain ⟨-, -, ⟨y2, z2⟩, -, -, ⟨y5, z5⟩, -, ⟨y7, z7⟩⟩ := hy
  obtain ⟨M', a1, a2, a3⟩ := p_pushPart z7 hA z2 h3 (by omega) hv.2.2.2.1 hv.2.2.2.2 ha
  refine ⟨M', ?_, a2, a3⟩
  unfold s_X5_writeRight
  rw [y2, y5, y7, g5, g6, a1]
  rfl
theorem p_writeConflict (hy : MgAt Y o) (h1 : LN M (o + 1) 24 bs) (h2 : LN M (o + 3) 24 ls) (h3 : LN M (o + 5) 24 rs) (h : TB M (o + 29) 800 8 (k_tb cf 0 cs)) {r : Nat} {c : CK} (hc : cs[r]? = some c) (hl : cs.length ≤ 100) (hv : CV bs.length ls.length rs.length c) (h4 : c.1 = 4) (hA : LN M (o + 33) 192 acc)
    (ha : acc.length + (3 + ((c.2.2.1 - c.2.1) + (c.2.2.2.2.1 - c.2.2.2.1) + (c.2.2.2.2.2.2 - c.2.2.2.2.2.1))) ≤ 192) (v : Int32) :
    ∃ M', s_X5_writeConflict Y M o (nI r) v = some M' ∧ JFr (o + 33) (o + 35) M M' ∧ LN M' (o + 33) 192 (acc ++ k_out bs ls rs c v) := by
  have g1 : s_X8_at Y M (o + 29) (nI r) (1 : Int32) = nI c.2.1 := p_ck hy h hc hl (show 1 < 8 by decide)
  have g2 : s_X8_at Y M (o + 29) (nI r) (2 : Int32) = nI c.2.2.1 := p_ck hy h hc hl (show 2 < 8 by decide)
  have hy' := hy
  obtain ⟨⟨y0, z0⟩, ⟨y1, z1⟩, ⟨y2, z2⟩, -, -, ⟨y5, z5⟩, -, ⟨y7, z7⟩⟩ := hy
  have hvl := hv.2.2.1
  have hvr := hv.2.2.2
  have hvb := hv.2.1
  unfold s_X5_writeConflict k_out
  rw [if_pos h4]
  by_cases q0 : v = 0
  · rw [if_pos q0, if_pos q0]
    obtain ⟨M', a1, a2, a3⟩ := p_writeLeft (m := ls.length) hy' h2 h hc hl hv hA (by omega)
    rw [a1]
    exact ⟨M', rfl, a2, a3⟩
  rw [if_neg q0, if_neg q0]
  by_cases q1 : v = 1
  · rw [if_pos q1, if_pos q1]
    obtain ⟨M', a1, a2, a3⟩ := p_writeRight (q := rs.length) hy' h3 h hc hl hv hA (by omega)
    rw [a1]
    exact ⟨M', rfl, a2, a3⟩
  rw [if_neg q1, if_neg q1]
  by_cases q2 : v = 2
  · rw [if_pos q2, if_pos q2]
    obtain ⟨M1, a1, a2, a3⟩ := p_writeLeft (m := ls.length) hy' h2 h hc hl hv hA (by omega)
    obtain ⟨M', b1, b2, b3⟩ := p_writeRight (q := rs.length) hy' (h3.frame a2 (by omega)) (h.frame a2 (by omega)) hc hl hv a3 (by rw [List.length_append, l_seg_len hvl.2]; omega)
    rw [a1]
    dsimp only [Option.bind]
    rw [b1]
    rw [List.append_assoc] at b3
    exact ⟨M', rfl, a2.trans b2, b3⟩
  rw [if_neg q2, if_neg q2]
  by_cases q3 : v = 3
  · rw [if_pos q3, if_pos q3]
    obtain ⟨M1, a1, a2, a3⟩ := p_writeRight (q := rs.length) hy' h3 h hc hl hv hA (by omega)
    obtain ⟨M', b1, b2, b3⟩ := p_writeLeft (m := ls.length) hy' (h2.frame a2 (by omega)) (h.frame a2 (by omega)) hc hl hv a3 (by rw [List.length_append, l_seg_len hvr.2]; omega)
    rw [a1]
    dsimp only [Option.bind]
    rw [b1]
    rw [List.append_assoc] at b3
    exact ⟨M', rfl, a2.trans b2, b3⟩
  rw [if_neg q3, if_neg q3]
  by_cases q4 : v = 4
  · rw [if_pos q4, if_pos q4, y0, y5, y7, g1, g2]
    obtain ⟨M', a1, a2, a3⟩ := p_pushPart z7 hA z0 h1 (by omega) hvb.1 hvb.2 (by omega)
    rw [a1]
    exact ⟨M', rfl, a2, a3⟩
  rw [if_neg q4, if_neg q4, y7]
  dsimp only [lt_]
  have r1 := p_push_LN z7 hA (by omega) (-1)
  have f1 := p_push_fr z7 hA (by omega) (-1)
  obtain ⟨M1, hM1⟩ : ∃ z, z = s_X4_push Y M (o + 33) (-1) := ⟨_, rfl⟩
  rw [← hM1] at r1 f1 ⊢
  obtain ⟨M2, a1, a2, a3⟩ := p_writeLeft (m := ls.length) hy' (h2.frame f1 (by omega)) (h.frame f1 (by omega)) hc hl hv r1 (by rw [List.length_append, List.length_singleton]; omega)
  rw [a1]
  dsimp only [Option.bind]
  have l2 : (acc ++ [-1] ++ l_seg ls c.2.2.2.1 c.2.2.2.2.1).length = acc.length + 1 + (c.2.2.2.2.1 - c.2.2.2.1) := by
    rw [List.length_append, List.length_append, List.length_singleton, l_seg_len hvl.2]
  have r2 := p_push_LN z7 a3 (by rw [l2]; omega) (-2)
  have f2 := p_push_fr z7 a3 (by rw [l2]; omega) (-2)
  obtain ⟨M3, hM3⟩ : ∃ z, z = s_X4_push Y M2 (o + 33) (-2) := ⟨_, rfl⟩
  rw [← hM3] at r2 f2 ⊢
  have F3 : JFr (o + 33) (o + 35) M M3 := (f1.trans a2).trans f2
  obtain ⟨M4, b1, b2, b3⟩ := p_writeRight (q := rs.length) hy' (h3.frame F3 (by omega)) (h.frame F3 (by omega)) hc hl hv r2 (by rw [List.length_append, l2, List.length_singleton]; omega)
  rw [b1]
  dsimp only
  have hlb : (acc ++ [-1] ++ l_seg ls c.2.2.2.1 c.2.2.2.2.1 ++ [-2] ++ l_seg rs c.2.2.2.2.2.1 c.2.2.2.2.2.2).length < 192 := by
    rw [List.length_append, List.length_append, l2, List.length_singleton, l_seg_len hvr.2]
    omega
  have r4 := p_push_LN z7 b3 hlb (-3)
  have f4 := p_push_fr z7 b3 hlb (-3)
  refine ⟨_, rfl, (F3.trans b2).trans f4, ?_⟩
  simp only [List.append_assoc] at r4 ⊢
  exact r4
theorem p_writeResult_loop (hy : MgAt Y o) (hl : cs.length ≤ 100) (hv : ∀ c ∈ cs, CV bs.length ls.length rs.length c) : ∀ (d r n : Nat) (M : JM) (acc : List Int32), cs.length = r + d → d < n → LN M (o + 1) 24 bs → LN M (o + 3) 24 ls → LN M (o + 5) 24 rs → TB M (o + 29) 800 8 (k_tb cf 0 cs) → LN M (o + 33) 192 acc →
    acc.length + (3 * (k_cr r (cs.drop r)).length + k_sz (cs.drop r)) ≤ 192 →
    ∃ M', lp_X5_writeResult_1 Y o n (nI r) M = some M' ∧ JFr (o + 33) (o + 35) M M' ∧ LN M' (o + 33) 192 (acc ++ k_res bs ls rs cf r (cs.drop r)) := by
  have hy' := hy
  obtain ⟨⟨y0, z0⟩, ⟨y1, z1⟩, ⟨y2, z2⟩, -, -, ⟨y5, z5⟩, -, ⟨y7, z7⟩⟩ := hy
  intro d
  induction d with
  | zero =>
    intro r n M acc hr hn h1 h2 h3 h hA ha
    obtain ⟨n, rfl⟩ : ∃ z, n = z + 1 := ⟨n - 1, by omega⟩
    refine ⟨M, ?_, JFr.refl, ?_⟩
    · unfold lp_X5_writeResult_1
      rw [y5, p_rows h, k_tb_len, if_pos (nI_le (by omega) (by omega))]
    · rw [List.drop_eq_nil_of_le (by omega)]
      show LN M (o + 33) 192 (acc ++ [])
      rw [List.append_nil]
      exact hA
  | succ d ih =>
    intro r n M acc hr hn h1 h2 h3 h hA ha
    obtain ⟨n, rfl⟩ : ∃ z, n = z + 1 := ⟨n - 1, by omega⟩
    have hr2 : r < cs.length := by omega
    have e := List.drop_eq_getElem_cons hr2
    obtain ⟨c, hcd⟩ : ∃ z, z = cs[r] := ⟨_, rfl⟩
    have hc : cs[r]? = some c := by rw [List.getElem?_eq_getElem hr2, hcd]
    have hcv := hv c (by rw [hcd]; exact List.getElem_mem hr2)
    rw [← hcd] at e
    rw [e, k_cr_c, k_sz_c] at ha
    have g0 : s_X8_at Y M (o + 29) (nI r) (0 : Int32) = nI c.1 := p_ck hy' h hc hl (show 0 < 8 by decide)
    have g7 : s_X8_at Y M (o + 29) (nI r) (7 : Int32) = cf r := p_ck hy' h hc hl (show 7 < 8 by decide)
    have key : ∃ M1, (if nI c.1 = (4 : Int32) then ((s_X5_writeConflict Y M o (nI r) (cf r)).bind fun xx11 => some xx11) else (if nI c.1 = (2 : Int32) then ((s_X5_writeRight Y M o (nI r)).bind fun xx13 => some xx13) else ((s_X5_writeLeft Y M o (nI r)).bind fun xx14 => some xx14))) = some M1 ∧ JFr (o + 33) (o + 35) M M1 ∧ LN M1 (o + 33) 192 (acc ++ k_out bs ls rs c (cf r)) := by
      have e4 : nI c.1 = (4 : Int32) ↔ c.1 = 4 := nI_eq (b := 4) (by have := hcv.1; omega) (by omega)
      have e2 : nI c.1 = (2 : Int32) ↔ c.1 = 2 := nI_eq (b := 2) (by have := hcv.1; omega) (by omega)
      by_cases q4 : c.1 = 4
      · rw [if_pos (e4.mpr q4)]
        rw [if_pos q4, List.length_cons] at ha
        obtain ⟨M1, a1, a2, a3⟩ := p_writeConflict hy' h1 h2 h3 h hc hl hcv q4 hA (by omega) (cf r)
        rw [a1]
        exact ⟨M1, rfl, a2, a3⟩
      · rw [if_neg (fun c => q4 (e4.mp c))]
        rw [if_neg q4] at ha
        unfold k_out
        rw [if_neg q4]
        by_cases q2 : c.1 = 2
        · rw [if_pos (e2.mpr q2), if_pos q2]
          obtain ⟨M1, a1, a2, a3⟩ := p_writeRight (q := rs.length) hy' h3 h hc hl hcv hA (by omega)
          rw [a1]
          exact ⟨M1, rfl, a2, a3⟩
        · rw [if_neg (fun c => q2 (e2.mp c)), if_neg q2]
          obtain ⟨M1, a1, a2, a3⟩ := p_writeLeft (m := ls.length) hy' h2 h hc hl hcv hA (by omega)
          rw [a1]
          exact ⟨M1, rfl, a2, a3⟩
    obtain ⟨M1, a1, a2, a3⟩ := key
    have hol := k_out_len (bs := bs) (ls := ls) (rs := rs) (c := c) (v := cf r)
    obtain ⟨M', b1, b2, b3⟩ := ih (r + 1) n M1 (acc ++ k_out bs ls rs c (cf r)) (by omega) (by omega) (h1.frame a2 (by omega)) (h2.frame a2 (by omega)) (h3.frame a2 (by omega)) (h.frame a2 (by omega)) a3 (by
      rw [List.length_append]
      by_cases q : c.1 = 4
      · rw [if_pos q] at ha hol
        rw [List.length_cons] at ha
        omega
      · rw [if_neg q] at ha hol
        omega)
    refine ⟨M', ?_, a2.trans b2, ?_⟩
    · unfold lp_X5_writeResult_1
      rw [y5, p_rows h, k_tb_len, if_neg (nI_ge (by omega) (by omega))]
      dsimp only [lt_]
      rw [g0, g7, a1]
      dsimp only [Option.bind]
      rw [nI_1]
      exact b1
    · rw [e]
      show LN M' (o + 33) 192 (acc ++ (k_out bs ls rs c (cf r) ++ k_res bs ls rs cf (r + 1) (cs.drop (r + 1))))
      rw [← List.append_assoc]
      exact b3
theorem p_writeResult (hy : MgAt Y o) (hl : cs.length ≤ 100) (hv : ∀ c ∈ cs, CV bs.length ls.length rs.length c) (hsz : 3 * (k_cr 0 cs).length + k_sz cs ≤ 192) (h1 : LN M (o + 1) 24 bs) (h2 : LN M (o + 3) 24 ls) (h3 : LN M (o + 5) 24 rs) (h : TB M (o + 29) 800 8 (k_tb cf 0 cs)) :
    ∃ M', s_X5_writeResult Y M o = some M' ∧ JFr (o + 33) (o + 35) M M' ∧ LN M' (o + 33) 192 (k_res bs ls rs cf 0 cs) := by
  have y7 := hy.2.2.2.2.2.2.2.1
  have t1 := p_clear_LN (Y := Y) (M := M) (o := o + 33) (cap := 192)
  have f1 := p_clear_fr (Y := Y) (M := M) (o := o + 33)
  obtain ⟨M1, hM1⟩ : ∃ z, z = s_X4_clear Y M (o + 33) := ⟨_, rfl⟩
  rw [← hM1] at t1 f1
  obtain ⟨M2, a1, a2, a3⟩ := p_writeResult_loop hy hl hv cs.length 0 j_fuel M1 [] (by omega) (j_fuel_gt (by omega)) (h1.frame f1 (by omega)) (h2.frame f1 (by omega)) (h3.frame f1 (by omega)) (h.frame f1 (by omega)) t1 (by simpa using hsz)
  refine ⟨M2, ?_, f1.trans a2, a3⟩
  unfold s_X5_writeResult
  rw [y7]
  dsimp only [lt_]
  rw [nI_0] at a1
  rw [← hM1, a1]
  rfl
end MGX

/-! ===== pure: merges; what a region becomes; the class ===== -/
abbrev CK : Type := Nat × Nat × Nat × Nat × Nat × Nat × Nat
def k_row (c : CK) : List Int32 := [nI c.1, nI c.2.1, nI c.2.2.1, nI c.2.2.2.1, nI c.2.2.2.2.1, nI c.2.2.2.2.2.1, nI c.2.2.2.2.2.2]
def k_r8 (c : CK) (v : Int32) : List Int32 := [nI c.1, nI c.2.1, nI c.2.2.1, nI c.2.2.2.1, nI c.2.2.2.2.1, nI c.2.2.2.2.2.1, nI c.2.2.2.2.2.2, v]
def k_cr : Nat → List CK → List Nat
  | _, [] => []
  | r, c :: cs => if c.1 = 4 then r :: k_cr (r + 1) cs else k_cr (r + 1) cs
theorem k_cr_c {r : Nat} {c : CK} {cs : List CK} : k_cr r (c :: cs) = if c.1 = 4 then r :: k_cr (r + 1) cs else k_cr (r + 1) cs := rfl
theorem k_cr_app : ∀ (cs ds : List CK) (r : Nat), k_cr r (cs ++ ds) = k_cr r cs ++ k_cr (r + cs.length) ds := by
  intro cs
  induction cs with
  | nil => intro ds r; rfl
  | cons c cs ih =>
    intro ds r
    rw [List.cons_append, k_cr_c, k_cr_c, ih ds (r + 1), List.length_cons, show r + 1 + cs.length = r + (cs.length + 1) by omega]
    split <;> rfl
theorem k_cr_len : ∀ (cs : List CK) (r : Nat), (k_cr r cs).length ≤ cs.length := by
  intro cs
  induction cs with
  | nil => intro r; exact Nat.le_refl _
  | cons c cs ih =>
    intro r
    have := ih (r + 1)
    unfold k_cr
    split
    · simp; omega
    · simp; omega
def q_hd (ls rs : List Int32) : Nat → Nat → Nat → Nat
  | 0, _, _ => 0
  | d + 1, j, k => if (ls[j]?).getD (-1) = (rs[k]?).getD (-1) then q_hd ls rs d (j + 1) (k + 1) + 1 else 0
def q_tl (ls rs : List Int32) : Nat → Nat → Nat → Nat
  | 0, _, _ => 0
  | d + 1, j, k => if (ls[j - 1]?).getD (-1) = (rs[k - 1]?).getD (-1) then q_tl ls rs d (j - 1) (k - 1) + 1 else 0
theorem q_hd_le {ls rs : List Int32} : ∀ (d j k : Nat), q_hd ls rs d j k ≤ d := by
  intro d
  induction d with
  | zero => intro j k; exact Nat.le_refl _
  | succ d ih =>
    intro j k
    unfold q_hd
    have := ih (j + 1) (k + 1)
    split <;> omega
theorem q_tl_le {ls rs : List Int32} : ∀ (d j k : Nat), q_tl ls rs d j k ≤ d := by
  intro d
  induction d with
  | zero => intro j k; exact Nat.le_refl _
  | succ d ih =>
    intro j k
    unfold q_tl
    have := ih (j - 1) (k - 1)
    split <;> omega
theorem q_hd_eq {ls rs : List Int32} : ∀ (d j k : Nat), q_hd ls rs d j k = d → ∀ t, t < d → (ls[j + t]?).getD (-1) = (rs[k + t]?).getD (-1) := by
  intro d
  induction d with
  | zero => intro j k _ t ht; exact absurd ht (Nat.not_lt_zero _)
  | succ d ih =>
    intro j k h t ht
    unfold q_hd at h
    by_cases q : (ls[j]?).getD (-1) = (rs[k]?).getD (-1)
    · rw [if_pos q] at h
      cases t with
      | zero => exact q
      | succ t =>
        have := ih (j + 1) (k + 1) (by omega) t (by omega)
        rw [show j + (t + 1) = j + 1 + t by omega, show k + (t + 1) = k + 1 + t by omega]
        exact this
    · rw [if_neg q] at h
      omega
def q_head (ls rs : List Int32) (sh : Bool) (j0 j1 k0 k1 : Nat) : Nat := if sh then q_hd ls rs (min (j1 - j0) (k1 - k0)) j0 k0 else 0
def q_tail (ls rs : List Int32) (sh : Bool) (j0 j1 k0 k1 : Nat) : Nat := if sh then q_tl ls rs (min (j1 - j0) (k1 - k0)) j1 k1 else 0
def q_cf (h t i0 i1 j0 j1 k0 k1 : Nat) : List CK :=
  (if h = 0 then [] else [(3, i0, i0, j0, j0 + h, k0, k0 + h)]) ++ ((4, i0, i1, j0 + h, j1 - t, k0 + h, k1 - t) :: (if t = 0 then [] else [(3, i1, i1, j1 - t, j1, k1 - t, k1)]))
def q_conf (ls rs : List Int32) (sh : Bool) (i0 i1 j0 j1 k0 k1 : Nat) : List CK :=
  q_cf (q_head ls rs sh j0 j1 k0 k1) (q_tail ls rs sh (j0 + q_head ls rs sh j0 j1 k0 k1) j1 (k0 + q_head ls rs sh j0 j1 k0 k1) k1) i0 i1 j0 j1 k0 k1
def q_kind (bs ls rs : List Int32) (i0 i1 j0 j1 k0 k1 : Nat) : Nat := if l_seg ls j0 j1 = l_seg bs i0 i1 then 2 else if l_seg rs k0 k1 = l_seg bs i0 i1 then 1 else if l_seg ls j0 j1 = l_seg rs k0 k1 then 3 else 4
def q_reg (bs ls rs : List Int32) (sh : Bool) (i0 i1 j0 j1 k0 k1 : Nat) : List CK :=
  if i0 = i1 ∧ j0 = j1 ∧ k0 = k1 then [] else
  if q_kind bs ls rs i0 i1 j0 j1 k0 k1 = 4 then q_conf ls rs sh i0 i1 j0 j1 k0 k1 else [(q_kind bs ls rs i0 i1 j0 j1 k0 k1, i0, i1, j0, j1, k0, k1)]
theorem q_conf_len {ls rs : List Int32} {sh : Bool} {i0 i1 j0 j1 k0 k1 : Nat} : (q_conf ls rs sh i0 i1 j0 j1 k0 k1).length ≤ 3 := by
  unfold q_conf q_cf
  rw [List.length_append]
  split <;> split <;> simp
theorem q_reg_len {bs ls rs : List Int32} {sh : Bool} {i0 i1 j0 j1 k0 k1 : Nat} : (q_reg bs ls rs sh i0 i1 j0 j1 k0 k1).length ≤ 3 := by
  unfold q_reg
  split
  · simp
  · split
    · exact q_conf_len
    · simp
def MgAt (Y : JY) (o : Nat) : Prop := (j_rf Y o 0 = o + 1 ∧ LnAt Y (o + 1) 24) ∧ (j_rf Y o 1 = o + 3 ∧ LnAt Y (o + 3) 24) ∧ (j_rf Y o 2 = o + 5 ∧ LnAt Y (o + 5) 24) ∧ (j_rf Y o 3 = o + 7 ∧ AlAt Y (o + 7)) ∧ (j_rf Y o 4 = o + 18 ∧ AlAt Y (o + 18)) ∧ (j_rf Y o 5 = o + 29 ∧ TbAt Y (o + 29) 800) ∧ (j_rf Y o 6 = o + 31 ∧ LnAt Y (o + 31) 100) ∧ (j_rf Y o 7 = o + 33 ∧ LnAt Y (o + 33) 192)
section MGS
variable {Y : JY} {M : JM} {o : Nat} {bs ls rs : List Int32} {ts : List (List Int32)} {R : List Int32} {i0 i1 j0 j1 k0 k1 : Nat}
theorem p_tput1 {q cap c : Nat} (z : TbAt Y q cap) (hc9 : c < 1000) {r : List Int32} (h : TB M q cap c (ts ++ [r])) {j : Nat} (hj : j < c) (v : Int32) :
    ∃ M', s_X8_put Y M q (nI ts.length) (nI j) v = M' ∧ JFr q (q + 2) M M' ∧ TB M' q cap c (ts ++ [r.set j v]) := by
  have hq : ts.length < (ts ++ [r]).length := by simp
  have t0 := p_tput_TB z hc9 h hq hj v
  rw [t_put_last] at t0
  exact ⟨_, rfl, p_tput_fr z hc9 h hq hj v, t0⟩
theorem p_tat1 {q cap c : Nat} (z : TbAt Y q cap) (hc : 0 < c) (hc9 : c < 1000) {r : List Int32} (h : TB M q cap c (ts ++ [r])) {j : Nat} (hj : j < c) : s_X8_at Y M q (nI ts.length) (nI j) = (r[j]?).getD (-1) := by
  have h9 := h.lens hc
  have h8 := z.2.2
  rw [List.length_append, List.length_singleton] at h9
  rw [p_tat z hc hc9 h (by omega) (by omega), t_at_last]
theorem p_mgAddPart (hy : MgAt Y o) (h : TB M (o + 29) 800 8 ts) (hl : ts.length < 100) (hne : ¬ (i0 = i1 ∧ j0 = j1 ∧ k0 = k1)) (hb : i0 < 100 ∧ i1 < 100 ∧ j0 < 100 ∧ j1 < 100 ∧ k0 < 100 ∧ k1 < 100) :
    ∃ M', s_X5_addPart Y M o (nI i0) (nI i1) (nI j0) (nI j1) (nI k0) (nI k1) = some (nI ts.length, M') ∧ JFr (o + 29) (o + 31) M M' ∧ TB M' (o + 29) 800 8 (ts ++ [[-1, nI i0, nI i1, nI j0, nI j1, nI k0, nI k1, -1]]) := by
  obtain ⟨-, -, -, -, -, ⟨y5, z5⟩, -⟩ := hy
  obtain ⟨M1, a1, a2, a3⟩ := p_addRow z5 (by decide) h (by omega)
  obtain ⟨N1, b1, b2, b3⟩ := p_tput1 z5 (by decide) a3 (show 1 < 8 by decide) (nI i0)
  obtain ⟨N2, c1, c2, c3⟩ := p_tput1 z5 (by decide) b3 (show 2 < 8 by decide) (nI i1)
  obtain ⟨N3, d1, d2, d3⟩ := p_tput1 z5 (by decide) c3 (show 3 < 8 by decide) (nI j0)
  obtain ⟨N4, e1, e2, e3⟩ := p_tput1 z5 (by decide) d3 (show 4 < 8 by decide) (nI j1)
  obtain ⟨N5, f1, f2, f3⟩ := p_tput1 z5 (by decide) e3 (show 5 < 8 by decide) (nI k0)
  obtain ⟨N6, g1, g2, g3⟩ := p_tput1 z5 (by decide) f3 (show 6 < 8 by decide) (nI k1)
  refine ⟨N6, ?_, (((((a2.trans b2).trans c2).trans d2).trans e2).trans f2).trans g2, g3⟩
  have q : ¬ nI i0 = nI i1 ∨ ¬ nI j0 = nI j1 ∨ ¬ nI k0 = nI k1 := by
    rw [nI_eq (by omega) (by omega), nI_eq (by omega) (by omega), nI_eq (by omega) (by omega)]
    omega
  unfold s_X5_addPart
  rw [if_pos q, y5, a1]
  dsimp only [Option.bind, lt_]
  rw [show nI 1 = (1 : Int32) from rfl] at b1
  rw [show nI 2 = (2 : Int32) from rfl] at c1
  rw [show nI 3 = (3 : Int32) from rfl] at d1
  rw [show nI 4 = (4 : Int32) from rfl] at e1
  rw [show nI 5 = (5 : Int32) from rfl] at f1
  rw [show nI 6 = (6 : Int32) from rfl] at g1
  rw [b1, c1, d1, e1, f1, g1]
theorem p_mgNone : s_X5_addPart Y M o (nI i0) (nI i0) (nI j0) (nI j0) (nI k0) (nI k0) = some (-1, M) := by
  unfold s_X5_addPart
  rw [if_neg (by rintro (c | c | c) <;> exact c rfl)]
theorem p_kindOf (hy : MgAt Y o) (h1 : LN M (o + 1) 24 bs) (h2 : LN M (o + 3) 24 ls) (h3 : LN M (o + 5) 24 rs) {v w : Int32} (h : TB M (o + 29) 800 8 (ts ++ [[v, nI i0, nI i1, nI j0, nI j1, nI k0, nI k1, w]]))
    (hi : i0 ≤ i1 ∧ i1 ≤ bs.length) (hj : j0 ≤ j1 ∧ j1 ≤ ls.length) (hk : k0 ≤ k1 ∧ k1 ≤ rs.length) : s_X5_kindOf Y M o (nI ts.length) = some (nI (q_kind bs ls rs i0 i1 j0 j1 k0 k1)) := by
  obtain ⟨⟨y0, z0⟩, ⟨y1, z1⟩, ⟨y2, z2⟩, -, -, ⟨y5, z5⟩, -⟩ := hy
  have g : ∀ j, j < 8 → s_X8_at Y M (o + 29) (nI ts.length) (nI j) = (([v, nI i0, nI i1, nI j0, nI j1, nI k0, nI k1, w] : List Int32)[j]?).getD (-1) := fun j hj => p_tat1 z5 (by decide) (by decide) h hj
  have g1 : s_X8_at Y M (o + 29) (nI ts.length) (1 : Int32) = nI i0 := g 1 (by decide)
  have g2 : s_X8_at Y M (o + 29) (nI ts.length) ((1 : Int32) + (1 : Int32)) = nI i1 := g 2 (by decide)
  have g3 : s_X8_at Y M (o + 29) (nI ts.length) (3 : Int32) = nI j0 := g 3 (by decide)
  have g4 : s_X8_at Y M (o + 29) (nI ts.length) ((3 : Int32) + (1 : Int32)) = nI j1 := g 4 (by decide)
  have g5 : s_X8_at Y M (o + 29) (nI ts.length) (5 : Int32) = nI k0 := g 5 (by decide)
  have g6 : s_X8_at Y M (o + 29) (nI ts.length) ((5 : Int32) + (1 : Int32)) = nI k1 := g 6 (by decide)
  unfold s_X5_kindOf s_X5_samePart
  rw [y0, y1, y2, y5, g1, g2, g3, g4, g5, g6, p_samePart z1 h2 z0 h1 hj.1 hj.2 hi.1 hi.2, p_samePart z2 h3 z0 h1 hk.1 hk.2 hi.1 hi.2, p_samePart z1 h2 z2 h3 hj.1 hj.2 hk.1 hk.2]
  unfold q_kind
  dsimp only [Option.bind]
  by_cases q1 : l_seg ls j0 j1 = l_seg bs i0 i1
  · rw [if_pos q1, if_pos q1, if_neg (by decide)]
    rfl
  · rw [if_neg q1, if_neg q1, if_pos rfl]
    by_cases q2 : l_seg rs k0 k1 = l_seg bs i0 i1
    · rw [if_pos q2, if_pos q2]
      rw [if_neg (by decide)]
      rfl
    · rw [if_neg q2, if_neg q2]
      rw [if_pos rfl]
      by_cases q3 : l_seg ls j0 j1 = l_seg rs k0 k1
      · rw [if_pos q3, if_pos q3]
        rfl
      · rw [if_neg q3, if_neg q3]
        rfl
theorem p_commonBegin (hy : MgAt Y o) (h2 : LN M (o + 3) 24 ls) (h3 : LN M (o + 5) 24 rs) (hj : j0 ≤ j1 ∧ j1 ≤ ls.length) (hk : k0 ≤ k1 ∧ k1 ≤ rs.length) : s_X5_commonBegin Y M o (nI j0) (nI j1) (nI k0) (nI k1) = some (nI (q_hd ls rs (min (j1 - j0) (k1 - k0)) j0 k0)) := by
  have e2 := h2.2.1
  have e3 := h3.2.1
  obtain ⟨-, ⟨y1, z1⟩, ⟨y2, z2⟩, -⟩ := hy
  have loop : ∀ (d r n : Nat), min (j1 - j0) (k1 - k0) = r + d → d < n → lp_X5_commonBegin_1 Y (nI (min (j1 - j0) (k1 - k0))) M o (nI j0) (nI k0) n (nI r) = some (nI (r + q_hd ls rs d (j0 + r) (k0 + r))) := by
    intro d
    induction d with
    | zero =>
      intro r n hr hn
      obtain ⟨n, rfl⟩ : ∃ z, n = z + 1 := ⟨n - 1, by omega⟩
      unfold lp_X5_commonBegin_1
      rw [if_pos (Or.inl (nI_le (by omega) (by omega)))]
      rfl
    | succ d ih =>
      intro r n hr hn
      obtain ⟨n, rfl⟩ : ∃ z, n = z + 1 := ⟨n - 1, by omega⟩
      unfold lp_X5_commonBegin_1 q_hd
      rw [y1, y2, p_at z1 h2, p_at z2 h3, nI_add, nI_add, l_at_nI (by omega), l_at_nI (by omega)]
      have e : ¬ nI (min (j1 - j0) (k1 - k0)) ≤ nI r := nI_ge (by omega) (by omega)
      by_cases q : (ls[j0 + r]?).getD (-1) = (rs[k0 + r]?).getD (-1)
      · rw [if_neg (by rintro (c | c); exact e c; exact c q), if_pos q]
        dsimp only [lt_]
        rw [nI_1, ih (r + 1) n (by omega) (by omega)]
        congr 2
        rw [show j0 + (r + 1) = j0 + r + 1 by omega, show k0 + (r + 1) = k0 + r + 1 by omega]
        omega
      · rw [if_pos (Or.inr q), if_neg q]
        rfl
  unfold s_X5_commonBegin
  rw [nI_sb hk.1, nI_sb hj.1, nI_min (by omega) (by omega)]
  dsimp only [lt_]
  have e := loop (min (j1 - j0) (k1 - k0)) 0 j_fuel (by omega) (j_fuel_gt (by omega))
  rw [nI_0, Nat.zero_add] at e
  rw [e]
  rfl
theorem p_commonEnd (hy : MgAt Y o) (h2 : LN M (o + 3) 24 ls) (h3 : LN M (o + 5) 24 rs) (hj : j0 ≤ j1 ∧ j1 ≤ ls.length) (hk : k0 ≤ k1 ∧ k1 ≤ rs.length) : s_X5_commonEnd Y M o (nI j0) (nI j1) (nI k0) (nI k1) = some (nI (q_tl ls rs (min (j1 - j0) (k1 - k0)) j1 k1)) := by
  have e2 := h2.2.1
  have e3 := h3.2.1
  obtain ⟨-, ⟨y1, z1⟩, ⟨y2, z2⟩, -⟩ := hy
  have loop : ∀ (d r n : Nat), min (j1 - j0) (k1 - k0) = r + d → d < n → lp_X5_commonEnd_1 Y (nI (min (j1 - j0) (k1 - k0))) M o (nI j1) (nI k1) n (nI r) = some (nI (r + q_tl ls rs d (j1 - r) (k1 - r))) := by
    intro d
    induction d with
    | zero =>
      intro r n hr hn
      obtain ⟨n, rfl⟩ : ∃ z, n = z + 1 := ⟨n - 1, by omega⟩
      unfold lp_X5_commonEnd_1
      rw [if_pos (Or.inl (nI_le (by omega) (by omega)))]
      rfl
    | succ d ih =>
      intro r n hr hn
      obtain ⟨n, rfl⟩ : ∃ z, n = z + 1 := ⟨n - 1, by omega⟩
      have p1 : nI j1 - (1 : Int32) - nI r = nI (j1 - r - 1) := by
        rw [show j1 = (j1 - 1) + 1 by omega, nI_pd, nI_sb (by omega)]
        congr 1
        omega
      have p2 : nI k1 - (1 : Int32) - nI r = nI (k1 - r - 1) := by
        rw [show k1 = (k1 - 1) + 1 by omega, nI_pd, nI_sb (by omega)]
        congr 1
        omega
      unfold lp_X5_commonEnd_1 q_tl
      rw [y1, y2, p_at z1 h2, p_at z2 h3, p1, p2, l_at_nI (by omega), l_at_nI (by omega)]
      have e : ¬ nI (min (j1 - j0) (k1 - k0)) ≤ nI r := nI_ge (by omega) (by omega)
      by_cases q : (ls[j1 - r - 1]?).getD (-1) = (rs[k1 - r - 1]?).getD (-1)
      · rw [if_neg (by rintro (c | c); exact e c; exact c q), if_pos q]
        dsimp only [lt_]
        rw [nI_1, ih (r + 1) n (by omega) (by omega)]
        congr 2
        rw [show j1 - (r + 1) = j1 - r - 1 by omega, show k1 - (r + 1) = k1 - r - 1 by omega]
        omega
      · rw [if_pos (Or.inr q), if_neg q]
        rfl
  unfold s_X5_commonEnd
  rw [nI_sb hk.1, nI_sb hj.1, nI_min (by omega) (by omega)]
  dsimp only [lt_]
  have e := loop (min (j1 - j0) (k1 - k0)) 0 j_fuel (by omega) (j_fuel_gt (by omega))
  rw [nI_0, Nat.zero_add] at e
  rw [e]
  rfl
end MGS

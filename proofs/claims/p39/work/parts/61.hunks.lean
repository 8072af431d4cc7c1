/-! ===== pure: patches; differences as numbers; hunks ===== -/
abbrev DF : Type := Nat × Nat × Nat × Nat
def d_row (d : DF) : List Int32 := [nI d.1, nI d.2.1, nI d.2.2.1, nI d.2.2.2]
def q_e1 (a0 i b0 j : Nat) : List DF := if a0 = i ∧ b0 = j then [] else [(a0, i, b0, j)]
theorem q_e1_row {a0 i b0 j : Nat} : (q_e1 a0 i b0 j).map d_row = q_d1 a0 i b0 j := by
  unfold q_e1 q_d1
  split <;> rfl
def q_ds (pt : Nat → Option Nat) (n m : Nat) : Nat → Nat → Nat → Nat → List DF
  | 0, _, a0, b0 => q_e1 a0 n b0 m
  | d + 1, i, a0, b0 => match pt i with
    | none => q_ds pt n m d (i + 1) a0 b0
    | some j => q_e1 a0 i b0 j ++ q_ds pt n m d (i + 1) (i + 1) (j + 1)
theorem q_ds_df {pt : Nat → Option Nat} {n m : Nat} : ∀ (d i a0 b0 : Nat) (acc : List (List Int32)), (q_df pt d i a0 b0 acc).1 ++ q_d1 (q_df pt d i a0 b0 acc).2.1 n (q_df pt d i a0 b0 acc).2.2 m = acc ++ (q_ds pt n m d i a0 b0).map d_row := by
  intro d
  induction d with
  | zero =>
    intro i a0 b0 acc
    unfold q_df q_ds
    rw [q_e1_row]
  | succ d ih =>
    intro i a0 b0 acc
    unfold q_df q_ds
    cases pt i with
    | none => exact ih (i + 1) a0 b0 acc
    | some j =>
      dsimp only
      rw [ih (i + 1) (i + 1) (j + 1) (acc ++ q_d1 a0 i b0 j), List.map_append, q_e1_row, List.append_assoc]
def q_dl (pt : Nat → Option Nat) (n m : Nat) : List DF := q_ds pt n m n 0 0 0
theorem q_dl_diffs {pt : Nat → Option Nat} {n m : Nat} : q_diffs pt n m = (q_dl pt n m).map d_row := by
  unfold q_diffs q_dl
  rw [q_ds_df n 0 0 0 [], List.nil_append]
/-- differences one behind another, with as many kept lines between them on both sides -/
def DC (n m : Nat) : Nat → Nat → List DF → Prop
  | pa, pb, [] => pa ≤ n ∧ pb ≤ m ∧ n - pa = m - pb
  | pa, pb, d :: ds => (pa ≤ d.1 ∧ d.1 ≤ d.2.1 ∧ d.2.1 ≤ n) ∧ (pb ≤ d.2.2.1 ∧ d.2.2.1 ≤ d.2.2.2 ∧ d.2.2.2 ≤ m) ∧ d.1 - pa = d.2.2.1 - pb ∧ DC n m d.2.1 d.2.2.2 ds
theorem q_ds_DC {pt : Nat → Option Nat} {n m : Nat} (hPM : PM pt n m) : ∀ (d i a0 b0 pa pb : Nat), n = i + d → a0 ≤ i → (∀ t j, i ≤ t → pt t = some j → b0 ≤ j) → b0 ≤ m → pa ≤ a0 → pb ≤ b0 → a0 - pa = b0 - pb → DC n m pa pb (q_ds pt n m d i a0 b0) := by
  intro d
  induction d with
  | zero =>
    intro i a0 b0 pa pb hi ha hb hbm h1 h2 h3
    unfold q_ds q_e1
    split
    · refine ⟨by omega, by omega, by omega⟩
    · exact ⟨⟨h1, by dsimp only; omega, Nat.le_refl _⟩, ⟨h2, hbm, Nat.le_refl _⟩, h3, Nat.le_refl _, Nat.le_refl _, by dsimp only; omega⟩
  | succ d ih =>
    intro i a0 b0 pa pb hi ha hb hbm h1 h2 h3
    unfold q_ds
    cases hp : pt i with
    | none => exact ih (i + 1) a0 b0 pa pb (by omega) (by omega) (fun t j a b => hb t j (by omega) b) hbm h1 h2 h3
    | some j =>
      dsimp only
      have hj := hPM.1 i j hp
      have hbj := hb i j (Nat.le_refl _) hp
      have nx : ∀ t j', i + 1 ≤ t → pt t = some j' → j + 1 ≤ j' := fun t j' a b => hPM.2 i t j j' (by omega) hp b
      unfold q_e1
      by_cases q : a0 = i ∧ b0 = j
      · rw [if_pos q, List.nil_append]
        exact ih (i + 1) (i + 1) (j + 1) pa pb (by omega) (Nat.le_refl _) nx (by omega) (by omega) (by omega) (by omega)
      · rw [if_neg q]
        exact ⟨⟨h1, ha, by dsimp only; omega⟩, ⟨h2, hbj, by dsimp only; omega⟩, h3, ih (i + 1) (i + 1) (j + 1) i j (by omega) (Nat.le_refl _) nx (by omega) (by omega) (by omega) (by omega)⟩
abbrev HK : Type := Nat × Nat × Nat × Nat × Nat × Nat
def h_row (h : HK) : List Int32 := [nI h.1, nI h.2.1, nI h.2.2.1, nI h.2.2.2.1, nI h.2.2.2.2.1, nI h.2.2.2.2.2]
def q_hk (n c : Nat) (d e : DF) : HK := (d.1 - min c d.1, min c d.1 + e.2.1 - d.1 + min c (n - e.2.1), d.2.2.1 - min c d.1, min c d.1 + e.2.2.2 - d.2.2.1 + min c (n - e.2.1), min c d.1, min c (n - e.2.1))
def q_hg (n c : Nat) : DF → DF → List DF → List HK
  | d, e, [] => [q_hk n c d e]
  | d, e, x :: ds => if x.1 - e.2.1 ≤ 2 * c then q_hg n c d x ds else q_hk n c d e :: q_hg n c x x ds
def q_hunks (n c : Nat) : List DF → List HK
  | [] => []
  | d :: ds => q_hg n c d d ds
/-- hunks one behind another -/
def HC (n m : Nat) : Nat → Nat → List HK → Prop
  | pa, pb, [] => pa ≤ n ∧ pb ≤ m
  | pa, pb, h :: hs => (pa ≤ h.1 ∧ h.1 + h.2.1 ≤ n) ∧ (pb ≤ h.2.2.1 ∧ h.2.2.1 + h.2.2.2.1 ≤ m) ∧ (h.2.2.2.2.1 + h.2.2.2.2.2 ≤ h.2.1 ∧ h.2.2.2.2.1 + h.2.2.2.2.2 ≤ h.2.2.2.1) ∧ (h.2.2.2.2.1 ≤ 3 ∧ h.2.2.2.2.2 ≤ 3) ∧ HC n m (h.1 + h.2.1) (h.2.2.1 + h.2.2.2.1) hs
theorem q_hg_HC {n m c : Nat} (hc : c ≤ 3) : ∀ (ds : List DF) (d e : DF) (pa pb : Nat), DC n m e.2.1 e.2.2.2 ds → d.1 ≤ e.2.1 ∧ d.2.2.1 ≤ e.2.2.2 → e.2.1 ≤ n ∧ e.2.2.2 ≤ m → pa + min c d.1 ≤ d.1 → pb + min c d.1 ≤ d.2.2.1 → HC n m pa pb (q_hg n c d e ds) := by
  intro ds
  induction ds with
  | nil =>
    intro d e pa pb hD h1 h2 h3 h4
    obtain ⟨g1, g2, g3⟩ := hD
    unfold q_hg q_hk
    refine ⟨⟨?_, ?_⟩, ⟨?_, ?_⟩, ⟨?_, ?_⟩, ⟨?_, ?_⟩, ?_, ?_⟩ <;> dsimp only <;> omega
  | cons x ds ih =>
    intro d e pa pb hD h1 h2 h3 h4
    obtain ⟨⟨g1, g2, g3⟩, ⟨g4, g5, g6⟩, g7, g8⟩ := hD
    unfold q_hg
    by_cases q : x.1 - e.2.1 ≤ 2 * c
    · rw [if_pos q]
      exact ih d x pa pb g8 (by omega) (by omega) h3 h4
    · rw [if_neg q]
      unfold q_hk
      refine ⟨⟨?_, ?_⟩, ⟨?_, ?_⟩, ⟨?_, ?_⟩, ⟨?_, ?_⟩, ih x x _ _ g8 (by omega) (by omega) ?_ ?_⟩ <;> dsimp only <;> omega
theorem q_hunks_HC {n m c : Nat} (hc : c ≤ 3) {ds : List DF} (h : DC n m 0 0 ds) : HC n m 0 0 (q_hunks n c ds) := by
  cases ds with
  | nil => exact ⟨h.1, h.2.1⟩
  | cons d ds =>
    obtain ⟨⟨g1, g2, g3⟩, ⟨g4, g5, g6⟩, g7, g8⟩ := h
    exact q_hg_HC hc ds d d 0 0 g8 (by omega) (by omega) (by omega) (by omega)
theorem q_hg_len {n c : Nat} : ∀ (ds : List DF) (d e : DF), (q_hg n c d e ds).length ≤ ds.length + 1 := by
  intro ds
  induction ds with
  | nil => intro d e; exact Nat.le_refl _
  | cons x ds ih =>
    intro d e
    unfold q_hg
    split
    · have := ih d x
      simp
      omega
    · have := ih x x
      simp
      omega
theorem q_hunks_len {n c : Nat} {ds : List DF} : (q_hunks n c ds).length ≤ ds.length := by
  cases ds with
  | nil => exact Nat.le_refl _
  | cons d ds => exact q_hg_len ds d d
theorem q_dl_len {pt : Nat → Option Nat} {n m : Nat} : (q_dl pt n m).length ≤ n + 1 := by
  have := q_diffs_len (pt := pt) (n := n) (m := m)
  rw [q_dl_diffs, List.length_map] at this
  exact this
def PcAt (Y : JY) (o : Nat) : Prop := (j_rf Y o 0 = o + 1 ∧ LnAt Y (o + 1) 24) ∧ (j_rf Y o 1 = o + 3 ∧ LnAt Y (o + 3) 24) ∧ (j_rf Y o 2 = o + 5 ∧ TbAt Y (o + 5) 150) ∧ (j_rf Y o 3 = o + 7 ∧ TbAt Y (o + 7) 50) ∧ (j_rf Y o 4 = o + 9 ∧ TbAt Y (o + 9) 50) ∧ (j_rf Y o 5 = o + 11 ∧ LnAt Y (o + 11) 96)
section PCS
variable {Y : JY} {M : JM} {o : Nat} {xs ys : List Int32} {ts : List (List Int32)} {hs : List HK}
theorem p_dat {q cap : Nat} (z : TbAt Y q cap) {D : List DF} (h : TB M q cap 4 (D.map d_row)) {i : Nat} {d : DF} (hd : D[i]? = some d) (hi : i < 1000) {j : Nat} (hj : j < 4) : s_X8_at Y M q (nI i) (nI j) = ((d_row d)[j]?).getD (-1) := by
  rw [p_tat z (by decide) (by decide) h (by omega) (by omega)]
  unfold t_at
  rw [List.getElem?_map, hd]
  rfl
theorem p_addHunk (hy : PcAt Y o) (h1 : LN M (o + 1) 24 xs) {q cap : Nat} (z : TbAt Y q cap) {D : List DF} (hD : TB M q cap 4 (D.map d_row)) {i k : Nat} {d e : DF} (hd : D[i]? = some d) (he : D[k]? = some e) (hi : i < 100) (hk : k < 100) {c : Nat} (hc : c ≤ 3) (hb : d.1 ≤ e.2.1 ∧ e.2.1 ≤ xs.length ∧ min c d.1 ≤ d.2.2.1 ∧ d.2.2.1 ≤ e.2.2.2 ∧ e.2.2.2 ≤ 24) (hT : TB M (o + 5) 150 6 (hs.map h_row)) (hl : hs.length < 25) :
    ∃ M', s_X6_addHunk Y M o q (nI i) (nI k) (nI c) = some M' ∧ JFr (o + 5) (o + 7) M M' ∧ TB M' (o + 5) 150 6 ((hs ++ [q_hk xs.length c d e]).map h_row) := by
  have e1 := h1.2.1
  obtain ⟨⟨y0, z0⟩, -, ⟨y2, z2⟩, -⟩ := hy
  have g0 : s_X8_at Y M q (nI i) (0 : Int32) = nI d.1 := p_dat z hD hd (by omega) (show 0 < 4 by decide)
  have g1 : s_X8_at Y M q (nI k) (1 : Int32) = nI e.2.1 := p_dat z hD he (by omega) (show 1 < 4 by decide)
  have g2 : s_X8_at Y M q (nI i) (2 : Int32) = nI d.2.2.1 := p_dat z hD hd (by omega) (show 2 < 4 by decide)
  have g3 : s_X8_at Y M q (nI k) (3 : Int32) = nI e.2.2.2 := p_dat z hD he (by omega) (show 3 < 4 by decide)
  obtain ⟨ld, hld⟩ : ∃ z, z = min c d.1 := ⟨_, rfl⟩
  obtain ⟨tr, htr⟩ : ∃ z, z = min c (xs.length - e.2.1) := ⟨_, rfl⟩
  have m1 : (if nI d.1 < nI c then nI d.1 else nI c) = nI ld := by rw [nI_min (by omega) (by omega), hld]
  have m2 : (if nI (xs.length - e.2.1) < nI c then nI (xs.length - e.2.1) else nI c) = nI tr := by rw [nI_min (by omega) (by omega), htr]
  have hlm : (hs.map h_row).length = hs.length := List.length_map _
  obtain ⟨M1, a1, a2, a3⟩ := p_addRow z2 (by decide) hT (by rw [hlm]; omega)
  rw [hlm] at a1
  obtain ⟨N1, b1, b2, b3⟩ := p_tput1 z2 (by decide) a3 (show 0 < 6 by decide) (nI (d.1 - ld))
  obtain ⟨N2, c1, c2, c3⟩ := p_tput1 z2 (by decide) b3 (show 1 < 6 by decide) (nI (ld + e.2.1 - d.1 + tr))
  obtain ⟨N3, d1, d2, d3⟩ := p_tput1 z2 (by decide) c3 (show 2 < 6 by decide) (nI (d.2.2.1 - ld))
  obtain ⟨N4, f1, f2, f3⟩ := p_tput1 z2 (by decide) d3 (show 3 < 6 by decide) (nI (ld + e.2.2.2 - d.2.2.1 + tr))
  obtain ⟨N5, i1, i2, i3⟩ := p_tput1 z2 (by decide) f3 (show 4 < 6 by decide) (nI ld)
  obtain ⟨N6, k1, k2, k3⟩ := p_tput1 z2 (by decide) i3 (show 5 < 6 by decide) (nI tr)
  rw [hlm] at b1 c1 d1 f1 i1 k1
  refine ⟨N6, ?_, (((((a2.trans b2).trans c2).trans d2).trans f2).trans i2).trans k2, ?_⟩
  · unfold s_X6_addHunk
    rw [g0, g1, g2, g3, y0, y2, p_size h1]
    dsimp only [lt_]
    rw [nI_sb hb.2.1, m1, m2, a1]
    dsimp only [Option.bind]
    rw [nI_sb (by omega), nI_add, nI_sb (by omega), nI_add, nI_sb (by omega), nI_add, nI_sb (by omega), nI_add]
    rw [show nI 0 = (0 : Int32) from rfl] at b1
    rw [show nI 1 = (1 : Int32) from rfl] at c1
    rw [show nI 2 = (2 : Int32) from rfl] at d1
    rw [show nI 3 = (3 : Int32) from rfl] at f1
    rw [show nI 4 = (4 : Int32) from rfl] at i1
    rw [show nI 5 = (5 : Int32) from rfl] at k1
    rw [b1, c1, d1, f1, i1, k1]
  · rw [List.map_append]
    have e9 : [q_hk xs.length c d e].map h_row = [[nI (d.1 - ld), nI (ld + e.2.1 - d.1 + tr), nI (d.2.2.1 - ld), nI (ld + e.2.2.2 - d.2.2.1 + tr), nI ld, nI tr]] := by
      unfold q_hk
      rw [← hld, ← htr]
      rfl
    rw [e9]
    exact k3
end PCS

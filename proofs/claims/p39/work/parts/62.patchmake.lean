/-! ===== pure: patches; the class makes one ===== -/
def PC (M : JM) (o : Nat) (mk : Bool) (xs ys : List Int32) (hs : List HK) (kp : List (List Int32)) : Prop :=
  M o 8 = (if mk then 1 else 0) ∧ M (o + 5) 1 = nI 6 ∧ M (o + 7) 1 = nI 2 ∧ TB M (o + 9) 50 2 kp ∧ (mk = true → LN M (o + 1) 24 xs ∧ LN M (o + 3) 24 ys ∧ HC xs.length ys.length 0 0 hs ∧ hs.length ≤ 25 ∧ TB M (o + 5) 150 6 (hs.map h_row))
theorem PC.frame {lo hi : Nat} {M M' : JM} {o : Nat} {mk : Bool} {xs ys : List Int32} {hs : List HK} {kp : List (List Int32)} (h : PC M o mk xs ys hs kp) (hf : JFr lo hi M M') (hd : o + 13 ≤ lo ∨ hi ≤ o) : PC M' o mk xs ys hs kp := by
  obtain ⟨a1, a2, a3, a4, a5⟩ := h
  refine ⟨by rw [hf o (by omega)]; exact a1, by rw [hf (o + 5) (by omega)]; exact a2, by rw [hf (o + 7) (by omega)]; exact a3, a4.frame hf (by omega), fun e => ?_⟩
  obtain ⟨b1, b2, b3, b4, b5⟩ := a5 e
  exact ⟨b1.frame hf (by omega), b2.frame hf (by omega), b3, b4, b5.frame hf (by omega)⟩
section PCM
variable {Y : JY} {M : JM} {o : Nat} {xs ys : List Int32} {ts : List (List Int32)} {hs : List HK} {D : List DF}
theorem p_isLast {q cap : Nat} (z : TbAt Y q cap) (h : TB M q cap 4 (D.map d_row)) (hl : D.length ≤ 50) {i c : Nat} {e x : DF} (he : D[i]? = some e) (hx1 : D[i + 1]? = some x) (hc : c ≤ 3) (hb : e.2.1 ≤ x.1 ∧ x.1 ≤ 100) :
    s_X6_isLastOfHunk Y M q (nI i) (nI c) = if x.1 - e.2.1 ≤ 2 * c then 0 else 1 := by
  have q1 : i + 1 < D.length := by
    apply Classical.byContradiction
    intro q
    rw [List.getElem?_eq_none (by omega)] at hx1
    exact absurd hx1 (by simp)
  have g0 : s_X8_at Y M q (nI (i + 1)) (0 : Int32) = nI x.1 := p_dat z h hx1 (by omega) (show 0 < 4 by decide)
  have g1 : s_X8_at Y M q (nI i) (1 : Int32) = nI e.2.1 := p_dat z h he (by omega) (show 1 < 4 by decide)
  have hr : s_X8_hasRow Y M q (nI (i + 1)) = 1 := by
    rw [p_hasRow z (by decide) h, List.length_map, if_pos ⟨nI_pos (by omega), by rw [nI_clamp (by omega)]; exact q1⟩]
  unfold s_X6_isLastOfHunk
  rw [nI_1, hr, g0, g1, nI_sb hb.1, show (2 : Int32) * nI c = nI (2 * c) from by rw [show (2 : Int32) = nI 2 from rfl, nI_mul]]
  by_cases q2 : x.1 - e.2.1 ≤ 2 * c
  · rw [if_neg (by rintro (c | c); exact absurd c (by decide); exact c (nI_le q2 (by omega))), if_pos q2]
  · rw [if_pos (Or.inr (nI_ge (by omega) (by omega))), if_neg q2]
theorem p_isLastN {q cap : Nat} (z : TbAt Y q cap) (h : TB M q cap 4 (D.map d_row)) (hl : D.length ≤ 50) {i c : Nat} (hi : D.length = i + 1) : s_X6_isLastOfHunk Y M q (nI i) (nI c) = 1 := by
  have hr : s_X8_hasRow Y M q (nI (i + 1)) = 0 := by
    rw [p_hasRow z (by decide) h, List.length_map, if_neg]
    rintro ⟨-, c⟩
    rw [nI_clamp (by omega)] at c
    omega
  unfold s_X6_isLastOfHunk
  rw [nI_1, hr, if_pos (Or.inl rfl)]
theorem p_hunk_loop (hy : PcAt Y o) {q1 : Nat} (z : TbAt Y (j_rf Y q1 3) 100) (hd : j_rf Y q1 3 + 2 ≤ o ∨ o + 13 ≤ j_rf Y q1 3) {c : Nat} (hc : c ≤ 3) (hDl : D.length ≤ 25) (hx24 : xs.length ≤ 24) (hy24 : ys.length ≤ 24) (mm : JM) :
    ∀ (k i b n : Nat) (M : JM) (hs : List HK) (d e : DF), D.length = i + 1 + k → k + 1 < n → D[b]? = some d → D[i]? = some e → b ≤ i → hs.length ≤ i → LN M (o + 1) 24 xs → TB M (j_rf Y q1 3) 100 4 (D.map d_row) → TB M (o + 5) 150 6 (hs.map h_row) →
      DC xs.length ys.length e.2.1 e.2.2.2 (D.drop (i + 1)) → d.1 ≤ e.2.1 ∧ d.2.2.1 ≤ e.2.2.2 → e.2.1 ≤ xs.length ∧ e.2.2.2 ≤ ys.length → min c d.1 ≤ d.2.2.1 →
      ∃ M', lp_X6_make_1 Y mm q1 (nI c) o n (nI b) (nI i) M = some M' ∧ JFr (o + 5) (o + 7) M M' ∧ TB M' (o + 5) 150 6 ((hs ++ q_hg xs.length c d e (D.drop (i + 1))).map h_row) := by
  have hq : s_X1_parts Y mm q1 = j_rf Y q1 3 := rfl
  intro k
  induction k with
  | zero =>
    intro i b n M hs d e hk hn hdb hei hbi hhl h1 hT hH hDC g1 g2 g3
    obtain ⟨n, rfl⟩ : ∃ z, n = z + 1 := ⟨n - 1, by omega⟩
    obtain ⟨n, rfl⟩ : ∃ z, n = z + 1 := ⟨n - 1, by omega⟩
    have hlast := p_isLastN z hT (by omega) (c := c) (i := i) (by omega)
    obtain ⟨M1, a1, a2, a3⟩ := p_addHunk hy h1 z hT hdb hei (by omega) (by omega) hc (by omega) hH (by omega)
    refine ⟨M1, ?_, a2, ?_⟩
    · unfold lp_X6_make_1
      rw [hq, p_rows hT, List.length_map, if_neg (nI_ge (by omega) (by omega)), hlast, if_neg (by decide), a1]
      dsimp only [Option.bind, lt_]
      unfold lp_X6_make_1
      rw [hq, p_rows (hT.frame a2 (by omega)), List.length_map, nI_1, if_pos (nI_le (by omega) (by omega))]
    · rw [List.drop_eq_nil_of_le (by omega)]
      exact a3
  | succ k ih =>
    intro i b n M hs d e hk hn hdb hei hbi hhl h1 hT hH hDC g1 g2 g3
    obtain ⟨n, rfl⟩ : ∃ z, n = z + 1 := ⟨n - 1, by omega⟩
    have hi1 : i + 1 < D.length := by omega
    have e0 := List.drop_eq_getElem_cons hi1
    obtain ⟨x, hxx⟩ : ∃ z, z = D[i + 1] := ⟨_, rfl⟩
    rw [← hxx] at e0
    have hx1 : D[i + 1]? = some x := by rw [List.getElem?_eq_getElem hi1, ← hxx]
    rw [e0] at hDC ⊢
    obtain ⟨⟨u1, u2, u3⟩, ⟨u4, u5, u6⟩, u7, u8⟩ := hDC
    have hlast := p_isLast z hT (by omega) (c := c) hei hx1 hc ⟨u1, by omega⟩
    unfold lp_X6_make_1 q_hg
    rw [hq, p_rows hT, List.length_map, if_neg (nI_ge (by omega) (by omega)), hlast]
    by_cases q : x.1 - e.2.1 ≤ 2 * c
    · rw [if_pos q, if_pos rfl, if_pos q]
      dsimp only [Option.bind, lt_]
      rw [nI_1]
      exact ih (i + 1) b n M hs d x (by omega) (by omega) hdb hx1 (by omega) (by omega) h1 hT hH u8 (by omega) (by omega) g3
    · rw [if_neg q, if_neg (by decide), if_neg q]
      obtain ⟨M1, a1, a2, a3⟩ := p_addHunk hy h1 z hT hdb hei (by omega) (by omega) hc (by omega) hH (by omega)
      rw [a1]
      dsimp only [Option.bind, lt_]
      rw [nI_1]
      obtain ⟨M', b1, b2, b3⟩ := ih (i + 1) (i + 1) n M1 (hs ++ [q_hk xs.length c d e]) x x (by omega) (by omega) hx1 hx1 (Nat.le_refl _) (by rw [List.length_append, List.length_singleton]; omega) (h1.frame a2 (by omega)) (hT.frame a2 (by omega)) a3 u8 (by omega) (by omega) (by omega)
      refine ⟨M', b1, a2.trans b2, ?_⟩
      rw [List.append_assoc] at b3
      exact b3
theorem p_patchMake (hy : PcAt Y o) {mk : Bool} {xs0 ys0 : List Int32} {hs0 : List HK} {kp0 : List (List Int32)} (hP : PC M o mk xs0 ys0 hs0 kp0) {q1 : Nat} (hyq : CmAt Y q1) (hd : q1 + 26 ≤ o ∨ o + 13 ≤ q1) {P : List (Nat × Nat)} {anc : Nat} {mv : List (List Int32)} (hC : CM M q1 true xs ys P anc mv) {c : Nat} (hc : c ≤ 3) :
    ∃ M', s_X6_make Y M o q1 (nI c) = some (nI (q_hunks xs.length c (q_dl (lk P) xs.length ys.length)).length, M') ∧ JFr o (o + 13) M M' ∧ PC M' o true xs ys (q_hunks xs.length c (q_dl (lk P) xs.length ys.length)) [] := by
  have hy' := hy
  obtain ⟨⟨y0, z0⟩, ⟨y1, z1⟩, ⟨y2, z2⟩, ⟨y3, z3⟩, ⟨y4, z4⟩, ⟨y5, z5⟩⟩ := hy
  obtain ⟨⟨u0, v0⟩, ⟨u1, v1⟩, -, ⟨u3, v3⟩, -⟩ := hyq
  obtain ⟨-, -, -, -, hC⟩ := hC
  obtain ⟨c1, c2, c3, -, c5, -⟩ := hC rfl
  have hx24 := c1.2.1
  have hy24 := c2.2.1
  obtain ⟨p1, p2, p3, p4, -⟩ := hP
  obtain ⟨M1, a1, a2, a3⟩ := p_become (M := M) z0 v0 c1 (by omega) hx24
  obtain ⟨M2, b1, b2, b3⟩ := p_become (M := M1) z1 v1 (c2.frame a2 (by omega)) (by omega) hy24
  have F2 : JFr (o + 1) (o + 5) M M2 := (a2.mono (by omega) (by omega)).trans (b2.mono (by omega) (by omega))
  have t1 := p_tclear (Y := Y) (o := o + 5) (cap := 150) (M := M2) (c := 6) (by rw [F2 (o + 5) (by omega)]; exact p2)
  have f1 := p_tclear_fr (Y := Y) (M := M2) (o := o + 5)
  obtain ⟨M3, hM3⟩ : ∃ z, z = s_X8_clear Y M2 (o + 5) := ⟨_, rfl⟩
  rw [← hM3] at t1 f1
  have F3 : JFr (o + 1) (o + 7) M M3 := (F2.mono (by omega) (by omega)).trans (f1.mono (by omega) (by omega))
  have t2 := p_tclear (Y := Y) (o := o + 9) (cap := 50) (M := M3) (c := 2) (by rw [F3 (o + 9) (by omega)]; exact p4.1)
  have f2 := p_tclear_fr (Y := Y) (M := M3) (o := o + 9)
  obtain ⟨M4, hM4⟩ : ∃ z, z = s_X8_clear Y M3 (o + 9) := ⟨_, rfl⟩
  rw [← hM4] at t2 f2
  have f3 : JFr o (o + 1) M4 (j_up M4 o 8 1) := JFr.up
  obtain ⟨M5, hM5⟩ : ∃ z, z = j_up M4 o 8 1 := ⟨_, rfl⟩
  rw [← hM5] at f3
  have F5 : JFr o (o + 13) M M5 := (F3.mono (by omega) (by omega)).trans ((f2.mono (by omega) (by omega)).trans (f3.mono (by omega) (by omega)))
  have hT5 := c5.frame F5 (by omega)
  rw [q_dl_diffs] at hT5
  have hDC : DC xs.length ys.length 0 0 (q_dl (lk P) xs.length ys.length) := q_ds_DC (lk_PM c3.1 c3.2) xs.length 0 0 0 0 0 (by omega) (Nat.le_refl _) (fun _ _ _ _ => Nat.zero_le _) (Nat.zero_le _) (Nat.le_refl _) (Nat.le_refl _) rfl
  have hDl := q_dl_len (pt := lk P) (n := xs.length) (m := ys.length)
  have hHC := q_hunks_HC hc hDC
  have hhl := q_hunks_len (n := xs.length) (c := c) (ds := q_dl (lk P) xs.length ys.length)
  have L1 := (((a3.frame b2 (by omega)).frame f1 (by omega)).frame f2 (by omega)).frame f3 (by omega)
  have L2 := ((b3.frame f1 (by omega)).frame f2 (by omega)).frame f3 (by omega)
  have T5 := (t1.frame f2 (by omega)).frame f3 (by omega)
  have K5 := t2.frame f3 (by omega)
  have key : ∃ M', lp_X6_make_1 Y M5 q1 (nI c) o j_fuel 0 0 M5 = some M' ∧ JFr (o + 5) (o + 7) M5 M' ∧ TB M' (o + 5) 150 6 ((q_hunks xs.length c (q_dl (lk P) xs.length ys.length)).map h_row) := by
    cases hD : q_dl (lk P) xs.length ys.length with
    | nil =>
      rw [hD] at hT5
      refine ⟨M5, ?_, JFr.refl, T5⟩
      have hfu : j_fuel = 9999 + 1 := rfl
      rw [hfu]
      unfold lp_X6_make_1
      have hq : s_X1_parts Y M5 q1 = j_rf Y q1 3 := rfl
      rw [hq, u3, p_rows hT5, if_pos (by decide)]
    | cons d ds =>
      rw [hD] at hT5 hDC hDl
      obtain ⟨⟨w1, w2, w3⟩, ⟨w4, w5, w6⟩, w7, w8⟩ := hDC
      rw [List.length_cons] at hDl
      have := p_hunk_loop hy' (q1 := q1) (D := d :: ds) (by rw [u3]; exact v3) (by omega) hc (by rw [List.length_cons]; omega) hx24 hy24 M5 ds.length 0 0 j_fuel M5 [] d d (by rw [List.length_cons]; omega) (by unfold j_fuel; omega) rfl rfl (Nat.le_refl _) (Nat.le_refl _) L1 (by rw [u3]; exact hT5) T5 w8 (by omega) (by omega) (by omega)
      rw [nI_0] at this
      exact this
  obtain ⟨M6, k1, k2, k3⟩ := key
  refine ⟨M6, ?_, F5.trans (k2.mono (by omega) (by omega)), ?_, k3.1, ?_, K5.frame k2 (by omega), fun _ => ⟨L1.frame k2 (by omega), L2.frame k2 (by omega), hHC, by omega, k3⟩⟩
  · unfold s_X6_make s_X1_first s_X1_second
    rw [y0, y1, y2, y4, u0, u1, a1]
    dsimp only [Option.bind]
    rw [b1]
    dsimp only [lt_]
    rw [← hM3, ← hM4, ← hM5, k1]
    dsimp only
    rw [p_rows k3, List.length_map]
  · rw [k2 o (by omega), hM5, j_up_s]
    rfl
  · rw [k2 (o + 7) (by omega), f3 (o + 7) (by omega), f2 (o + 7) (by omega), F3 (o + 7) (by omega)]
    exact p3
end PCM

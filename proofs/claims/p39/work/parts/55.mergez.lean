/-! ===== pure: merges; the class's merge as a whole ===== -/
def CC (cf : Nat → Int32) : Prop := ∀ r, cf r = -1 ∨ cf r = 0 ∨ cf r = 1 ∨ cf r = 2 ∨ cf r = 3 ∨ cf r = 4
/-- what holds of a merge's chunks -/
def MV (bs ls rs : List Int32) (cs : List CK) (cf : Nat → Int32) : Prop := (bs.length ≤ 24 ∧ ls.length ≤ 24 ∧ rs.length ≤ 24) ∧ (∀ c ∈ cs, CV bs.length ls.length rs.length c) ∧ k_sz cs ≤ 72 ∧ cs.length ≤ 99 ∧ (k_cr 0 cs).length ≤ 25 ∧ CC cf
def MG (M : JM) (o : Nat) (mk : Bool) (bs ls rs : List Int32) (cs : List CK) (cf : Nat → Int32) : Prop :=
  M o 8 = (if mk then 1 else 0) ∧ (∃ rs, rs.length = 25 ∧ TB M (o + 16) 625 25 rs) ∧ (∃ rs, rs.length = 25 ∧ TB M (o + 27) 625 25 rs) ∧ M (o + 29) 1 = nI 8 ∧
    (mk = true → LN M (o + 1) 24 bs ∧ LN M (o + 3) 24 ls ∧ LN M (o + 5) 24 rs ∧ MV bs ls rs cs cf ∧ TB M (o + 29) 800 8 (k_tb cf 0 cs) ∧ LN M (o + 31) 100 ((k_cr 0 cs).map nI) ∧ LN M (o + 33) 192 (k_res bs ls rs cf 0 cs))
theorem MG.frame {lo hi : Nat} {M M' : JM} {o : Nat} {mk : Bool} {bs ls rs : List Int32} {cs : List CK} {cf : Nat → Int32} (h : MG M o mk bs ls rs cs cf) (hf : JFr lo hi M M') (hd : o + 35 ≤ lo ∨ hi ≤ o) : MG M' o mk bs ls rs cs cf := by
  obtain ⟨a1, ⟨r1, a2, a3⟩, ⟨r2, a4, a5⟩, a6, a7⟩ := h
  refine ⟨by rw [hf o (by omega)]; exact a1, ⟨r1, a2, a3.frame hf (by omega)⟩, ⟨r2, a4, a5.frame hf (by omega)⟩, by rw [hf (o + 29) (by omega)]; exact a6, fun e => ?_⟩
  obtain ⟨b1, b2, b3, b4, b5, b6, b7⟩ := a7 e
  exact ⟨b1.frame hf (by omega), b2.frame hf (by omega), b3.frame hf (by omega), b4, b5.frame hf (by omega), b6.frame hf (by omega), b7.frame hf (by omega)⟩
section MGZ
variable {Y : JY} {M : JM} {o : Nat} {bs ls rs : List Int32} {cs : List CK} {cf : Nat → Int32} {P Q : List (Nat × Nat)} {anc anc2 : Nat} {t1 t2 : List (List Int32)}
theorem p_addStable (hy : MgAt Y o) (h : TB M (o + 29) 800 8 (cs.map k_F)) (hl : cs.length < 100) (hv : ∀ c ∈ cs, c.1 < 5) {i j k : Nat} (hb : i < 99 ∧ j < 99 ∧ k < 99) :
    ∃ M', s_X5_addStable Y M o (nI i) (nI j) (nI k) = some M' ∧ JFr (o + 29) (o + 31) M M' ∧ TB M' (o + 29) 800 8 ((q_stab cs i j k).map k_F) := by
  have hy' := hy
  obtain ⟨-, -, -, -, -, ⟨y5, z5⟩, -⟩ := hy
  unfold s_X5_addStable
  rw [y5, p_rows h, List.length_map]
  have fresh : ∃ M', ((s_X5_addPart Y M o (nI i) (nI i + 1) (nI j) (nI j + 1) (nI k) (nI k + 1)).bind fun xx7 => lt_ (s_X5_setKind Y xx7.2 o xx7.1 (0 : Int32)) fun xx8 => some xx8) = some M' ∧ JFr (o + 29) (o + 31) M M' ∧ TB M' (o + 29) 800 8 ((cs ++ [(0, i, i + 1, j, j + 1, k, k + 1)]).map k_F) := by
    rw [nI_1, nI_1, nI_1]
    obtain ⟨M1, a1, a2, a3⟩ := p_mgAddPart hy' (i0 := i) (i1 := i + 1) (j0 := j) (j1 := j + 1) (k0 := k) (k1 := k + 1) h (by rw [List.length_map]; exact hl) (by omega) (by omega)
    obtain ⟨M2, b1, b2, b3⟩ := p_setKind hy' a3 (0 : Int32)
    rw [a1]
    dsimp only [Option.bind, lt_]
    rw [b1]
    refine ⟨M2, rfl, a2.trans b2, ?_⟩
    rw [List.map_append]
    exact b3
  dsimp only [lt_] at fresh ⊢
  rcases l_end cs with e | ⟨ds, c, e⟩
  · subst e
    rw [show nI ([] : List CK).length - (1 : Int32) = -1 by decide, p_tat_neg (by decide), if_neg (by decide)]
    exact fresh
  · subst e
    have hc5 := hv c (List.mem_append.mpr (Or.inr (List.mem_singleton.mpr rfl)))
    rw [List.map_append] at h
    rw [List.length_append, List.length_singleton, nI_pd]
    have g0 := p_tat1 z5 (by decide) (by decide) (ts := ds.map k_F) (r := k_F c) h (show 0 < 8 by decide)
    rw [List.length_map, show nI 0 = (0 : Int32) from rfl] at g0
    have g1 : s_X8_at Y M (o + 29) (nI ds.length) 0 = nI c.1 := g0
    rw [g1]
    have e0 : nI c.1 = (0 : Int32) ↔ c.1 = 0 := nI_eq (b := 0) (by omega) (by omega)
    by_cases q : c.1 = 0
    · rw [if_pos (e0.mpr q), q_stab_0 q]
      obtain ⟨N1, b1, b2, b3⟩ := p_tput1 z5 (by decide) (ts := ds.map k_F) (r := k_F c) h (show 2 < 8 by decide) (nI (i + 1))
      obtain ⟨N2, c1, c2, c3⟩ := p_tput1 z5 (by decide) b3 (show 4 < 8 by decide) (nI (j + 1))
      obtain ⟨N3, d1, d2, d3⟩ := p_tput1 z5 (by decide) c3 (show 6 < 8 by decide) (nI (k + 1))
      rw [List.length_map, show nI 2 = (2 : Int32) from rfl] at b1
      rw [List.length_map, show nI 4 = (4 : Int32) from rfl] at c1
      rw [List.length_map, show nI 6 = (6 : Int32) from rfl] at d1
      rw [nI_1, nI_1, nI_1, b1, c1, d1]
      refine ⟨N3, rfl, (b2.trans c2).trans d2, ?_⟩
      rw [List.map_append]
      have e9 : ((((k_F c).set 2 (nI (i + 1))).set 4 (nI (j + 1))).set 6 (nI (k + 1))) = k_F (0, c.2.1, i + 1, c.2.2.2.1, j + 1, c.2.2.2.2.2.1, k + 1) := by
        show [nI c.1, _, _, _, _, _, _, _] = [nI 0, _, _, _, _, _, _, _]
        rw [q]
      rw [e9] at d3
      exact d3
    · rw [if_neg (fun c => q (e0.mp c)), q_stab_n q]
      exact fresh
theorem p_mgLoop (hy : MgAt Y o) (sh : Int32) (hPl : PM (lk P) bs.length ls.length) (hBl : PB P bs.length ls.length) (hPr : PM (lk Q) bs.length rs.length) (hBr : PB Q bs.length rs.length) :
    ∀ (d i i0 j0 k0 n : Nat) (M : JM) (cs : List CK), bs.length = i + d → d < n → MI bs.length ls.length rs.length cs i i0 j0 k0 → (∀ t j, i ≤ t → lk P t = some j → j0 ≤ j) → (∀ t k, i ≤ t → lk Q t = some k → k0 ≤ k) →
      LN M (o + 1) 24 bs → LN M (o + 3) 24 ls → LN M (o + 5) 24 rs → AL M (o + 7) bs.length ls.length P anc t1 → AL M (o + 18) bs.length rs.length Q anc2 t2 → TB M (o + 29) 800 8 (cs.map k_F) → LN M (o + 31) 100 ((k_cr 0 cs).map nI) →
      ∃ M', lp_X5_make_1 Y o sh n (nI i0) (nI j0) (nI k0) (nI i) M = some (nI (q_mg bs ls rs (decide (sh ≠ 0)) (lk P) (lk Q) d i i0 j0 k0 cs).2.1, nI (q_mg bs ls rs (decide (sh ≠ 0)) (lk P) (lk Q) d i i0 j0 k0 cs).2.2.1, nI (q_mg bs ls rs (decide (sh ≠ 0)) (lk P) (lk Q) d i i0 j0 k0 cs).2.2.2, M') ∧ JFr (o + 29) (o + 33) M M' ∧
        TB M' (o + 29) 800 8 ((q_mg bs ls rs (decide (sh ≠ 0)) (lk P) (lk Q) d i i0 j0 k0 cs).1.map k_F) ∧ LN M' (o + 31) 100 ((k_cr 0 (q_mg bs ls rs (decide (sh ≠ 0)) (lk P) (lk Q) d i i0 j0 k0 cs).1).map nI) := by
  have hy' := hy
  obtain ⟨⟨y0, z0⟩, ⟨y1, z1⟩, ⟨y2, z2⟩, ⟨y3, z3⟩, ⟨y4, z4⟩, ⟨y5, z5⟩, ⟨y6, z6⟩, -⟩ := hy
  intro d
  induction d with
  | zero =>
    intro i i0 j0 k0 n M cs hi hn hI hj hk h1 h2 h3 hA1 hA2 hT hR
    obtain ⟨n, rfl⟩ : ∃ z, n = z + 1 := ⟨n - 1, by omega⟩
    have e1 := h1.2.1
    refine ⟨M, ?_, JFr.refl, hT, hR⟩
    unfold lp_X5_make_1
    rw [y0, p_size h1, if_pos (nI_le (by omega) (by omega))]
    rfl
  | succ d ih =>
    intro i i0 j0 k0 n M cs hi hn hI hj hk h1 h2 h3 hA1 hA2 hT hR
    obtain ⟨n, rfl⟩ : ∃ z, n = z + 1 := ⟨n - 1, by omega⟩
    have e1 := h1.2.1
    have e2 := h2.2.1
    have e3 := h3.2.1
    unfold lp_X5_make_1 q_mg
    rw [y0, p_size h1, if_neg (nI_ge (by omega) (by omega)), y3, y4, p_isFirstKept z3 hA1 (show i < bs.length by omega) hBl (by omega), p_isFirstKept z4 hA2 (show i < bs.length by omega) hBr (by omega)]
    have skip : ∃ M', lp_X5_make_1 Y o sh n (nI i0) (nI j0) (nI k0) (nI (i + 1)) M = some (nI (q_mg bs ls rs (decide (sh ≠ 0)) (lk P) (lk Q) d (i + 1) i0 j0 k0 cs).2.1, nI (q_mg bs ls rs (decide (sh ≠ 0)) (lk P) (lk Q) d (i + 1) i0 j0 k0 cs).2.2.1, nI (q_mg bs ls rs (decide (sh ≠ 0)) (lk P) (lk Q) d (i + 1) i0 j0 k0 cs).2.2.2, M') ∧ JFr (o + 29) (o + 33) M M' ∧
        TB M' (o + 29) 800 8 ((q_mg bs ls rs (decide (sh ≠ 0)) (lk P) (lk Q) d (i + 1) i0 j0 k0 cs).1.map k_F) ∧ LN M' (o + 31) 100 ((k_cr 0 (q_mg bs ls rs (decide (sh ≠ 0)) (lk P) (lk Q) d (i + 1) i0 j0 k0 cs).1).map nI) :=
      ih (i + 1) i0 j0 k0 n M cs (by omega) (by omega) hI.skip (fun t j a b => hj t j (by omega) b) (fun t k a b => hk t k (by omega) b) h1 h2 h3 hA1 hA2 hT hR
    have en : (if (none : Option Nat).isSome = true then (1 : Int32) else 0) = 0 := rfl
    have es : ∀ x : Nat, ¬ (if (some x).isSome = true then (1 : Int32) else 0) = 0 := fun x => by
      rw [if_pos Option.isSome_some]
      decide
    cases hl : lk P i with
    | none =>
      rw [if_pos (Or.inl en)]
      dsimp only [Option.bind, lt_]
      rw [nI_1]
      exact skip
    | some j =>
      cases hr : lk Q i with
      | none =>
        rw [if_pos (Or.inr en)]
        dsimp only [Option.bind, lt_]
        rw [nI_1]
        exact skip
      | some k =>
        have b1 := hPl.1 i j hl
        have b2 := hPr.1 i k hr
        have hjj := hj i j (Nat.le_refl _) hl
        have hkk := hk i k (Nat.le_refl _) hr
        rw [if_neg (by rintro (c | c); exact es j c; exact es k c), p_partnerOf z3 hA1 (show i < bs.length by omega), p_partnerOf z4 hA2 (show i < bs.length by omega), hl, hr]
        rw [show oI (some j) = nI j from rfl, show oI (some k) = nI k from rfl]
        have hI2 := hI.next (bs := bs) (ls := ls) (rs := rs) (sh := decide (sh ≠ 0)) hPl hPr (by omega) hl hr hjj hkk
        obtain ⟨g1, g2, g3, g4, g5, g6⟩ := hI
        obtain ⟨r, M1, M2, a1, a2, a3, a4, a5⟩ := p_region (i0 := i0) (i1 := i) (j0 := j0) (j1 := j) (k0 := k0) (k1 := k) hy' h1 h2 h3 hT (by rw [List.length_map]; omega) hR (by rw [List.length_map]; omega) (by omega) (by omega) (by omega) sh
        rw [← List.map_append] at a4
        have hqr := q_reg_ok (bs := bs) (ls := ls) (rs := rs) (sh := decide (sh ≠ 0)) (n := bs.length) (m := ls.length) (r := rs.length) (i0 := i0) (i1 := i) (j0 := j0) (j1 := j) (k0 := k0) (k1 := k) (by omega) (by omega) (by omega)
        have hql := q_reg_len (bs := bs) (ls := ls) (rs := rs) (sh := decide (sh ≠ 0)) (i0 := i0) (i1 := i) (j0 := j0) (j1 := j) (k0 := k0) (k1 := k)
        obtain ⟨M3, c1, c2, c3⟩ := p_addStable hy' (i := i) (j := j) (k := k) a4 (by rw [List.length_append]; omega) (fun c hc => (List.mem_append.mp hc).elim (fun hc => (g1.1 c hc).1) (fun hc => (hqr.1 c hc).1.1)) (by omega)
        have F : JFr (o + 29) (o + 33) M M3 := a3.trans (c2.mono (by omega) (by omega))
        have a6 : LN M3 (o + 31) 100 ((k_cr 0 (q_stab (cs ++ q_reg bs ls rs (decide (sh ≠ 0)) i0 i j0 j k0 k) i j k)).map nI) := by
          rw [q_stab_cr, k_cr_app, List.map_append, Nat.zero_add]
          rw [List.length_map] at a5
          exact a5.frame c2 (by omega)
        obtain ⟨M', d1, d2, d3, d4⟩ := ih (i + 1) (i + 1) (j + 1) (k + 1) n M3 _ (by omega) (by omega) hI2 (fun t j' a b => hPl.2 i t j j' (by omega) hl b) (fun t k' a b => hPr.2 i t k k' (by omega) hr b)
          (h1.frame F (by omega)) (h2.frame F (by omega)) (h3.frame F (by omega)) (hA1.frame F (by omega)) (hA2.frame F (by omega)) c3 a6
        refine ⟨M', ?_, F.trans d2, d3, d4⟩
        dsimp only [Option.bind, lt_]
        rw [a1]
        dsimp only
        rw [a2]
        dsimp only
        rw [c1]
        dsimp only
        rw [nI_1, nI_1, nI_1]
        exact d1
theorem p_hold (hy : MgAt Y o) {q1 q2 q3 : Nat} (hy1 : LnAt Y q1 24) (hy2 : LnAt Y q2 24) (hy3 : LnAt Y q3 24) (hd1 : q1 + 2 ≤ o ∨ o + 35 ≤ q1) (hd2 : q2 + 2 ≤ o ∨ o + 35 ≤ q2) (hd3 : q3 + 2 ≤ o ∨ o + 35 ≤ q3) (h1 : LN M q1 24 bs) (h2 : LN M q2 24 ls) (h3 : LN M q3 24 rs) :
    ∃ M', s_X5_hold Y M o q1 q2 q3 = some M' ∧ JFr (o + 1) (o + 7) M M' ∧ LN M' (o + 1) 24 bs ∧ LN M' (o + 3) 24 ls ∧ LN M' (o + 5) 24 rs := by
  obtain ⟨⟨y0, z0⟩, ⟨y1, z1⟩, ⟨y2, z2⟩, -⟩ := hy
  obtain ⟨M1, a1, a2, a3⟩ := p_become (M := M) z0 hy1 h1 (by omega) h1.2.1
  obtain ⟨M2, b1, b2, b3⟩ := p_become (M := M1) z1 hy2 (h2.frame a2 (by omega)) (by omega) h2.2.1
  obtain ⟨M3, c1, c2, c3⟩ := p_become (M := M2) z2 hy3 ((h3.frame a2 (by omega)).frame b2 (by omega)) (by omega) h3.2.1
  refine ⟨M3, ?_, (a2.mono (by omega) (by omega)).trans ((b2.mono (by omega) (by omega)).trans (c2.mono (by omega) (by omega))), (a3.frame b2 (by omega)).frame c2 (by omega), b3.frame c2 (by omega), c3⟩
  unfold s_X5_hold
  rw [y0, y1, y2, a1]
  dsimp only [Option.bind]
  rw [b1]
  dsimp only
  rw [c1]
def q_mgs (bs ls rs : List Int32) (w sh : Bool) : List CK := q_merge bs ls rs sh (lk (q_align bs ls w).1) (lk (q_align bs rs w).1)
theorem q_mgs_MV {w sh : Bool} (h : bs.length ≤ 24 ∧ ls.length ≤ 24 ∧ rs.length ≤ 24) : MV bs ls rs (q_mgs bs ls rs w sh) (fun _ => -1) := by
  obtain ⟨hS, hB⟩ := q_align_ok bs ls w
  obtain ⟨hS2, hB2⟩ := q_align_ok bs rs w
  obtain ⟨a1, a2, a3, a4⟩ := q_merge_ok (sh := sh) (lk_PM hS hB) (lk_PM hS2 hB2)
  unfold q_mgs
  exact ⟨h, a1, by omega, by omega, by omega, fun _ => Or.inl rfl⟩
theorem p_mgMake (hy : MgAt Y o) {mk : Bool} {bs0 ls0 rs0 : List Int32} {cs0 : List CK} {cf0 : Nat → Int32} (hG : MG M o mk bs0 ls0 rs0 cs0 cf0) {q1 q2 q3 : Nat} (hy1 : LnAt Y q1 24) (hy2 : LnAt Y q2 24) (hy3 : LnAt Y q3 24) (hd1 : q1 + 2 ≤ o ∨ o + 35 ≤ q1) (hd2 : q2 + 2 ≤ o ∨ o + 35 ≤ q2) (hd3 : q3 + 2 ≤ o ∨ o + 35 ≤ q3) (h1 : LN M q1 24 bs) (h2 : LN M q2 24 ls) (h3 : LN M q3 24 rs) (mo sh : Int32) :
    ∃ M1 M', s_X5_hold Y M o q1 q2 q3 = some M1 ∧ s_X5_make Y M1 o mo sh = some (nI (k_cr 0 (q_mgs bs ls rs (decide (mo = 1)) (decide (sh ≠ 0)))).length, M') ∧ JFr (o + 1) (o + 7) M M1 ∧ JFr o (o + 35) M M' ∧ MG M' o true bs ls rs (q_mgs bs ls rs (decide (mo = 1)) (decide (sh ≠ 0))) (fun _ => -1) := by
  have hy' := hy
  have e1 := h1.2.1
  have e2 := h2.2.1
  have e3 := h3.2.1
  obtain ⟨⟨y0, z0⟩, ⟨y1, z1⟩, ⟨y2, z2⟩, ⟨y3, z3⟩, ⟨y4, z4⟩, ⟨y5, z5⟩, ⟨y6, z6⟩, -⟩ := hy
  obtain ⟨M1, a1, a2, a3, a4, a5⟩ := p_hold hy' hy1 hy2 hy3 hd1 hd2 hd3 h1 h2 h3
  obtain ⟨g1, ⟨r1, g2, g3⟩, ⟨r2, g4, g5⟩, g6, -⟩ := hG
  obtain ⟨M2, t1, b1, b2, b3⟩ := p_build (M := M1) (o := o + 7) z3 z0 z1 (by omega) (by omega) e1 e2 ⟨r1, g2, g3.frame a2 (by omega)⟩ a3 a4 mo
  have F2 : JFr (o + 1) (o + 18) M M2 := (a2.mono (by omega) (by omega)).trans (b2.mono (by omega) (by omega))
  obtain ⟨M3, t2, c1, c2, c3⟩ := p_build (M := M2) (o := o + 18) z4 z0 z2 (by omega) (by omega) e1 e3 ⟨r2, g4, g5.frame F2 (by omega)⟩ (a3.frame b2 (by omega)) (a5.frame b2 (by omega)) mo
  have F3 : JFr (o + 1) (o + 29) M M3 := (F2.mono (by omega) (by omega)).trans (c2.mono (by omega) (by omega))
  have k4 : M3 (o + 29) 1 = nI 8 := by rw [F3 (o + 29) (by omega)]; exact g6
  have d1 := p_tclear (Y := Y) (o := o + 29) (cap := 800) k4
  have d2 := p_tclear_fr (Y := Y) (M := M3) (o := o + 29)
  obtain ⟨M4, hM4⟩ : ∃ z, z = s_X8_clear Y M3 (o + 29) := ⟨_, rfl⟩
  rw [← hM4] at d1 d2
  have f1 := p_clear_LN (Y := Y) (M := M4) (o := o + 31) (cap := 100)
  have f2 := p_clear_fr (Y := Y) (M := M4) (o := o + 31)
  obtain ⟨M5, hM5⟩ : ∃ z, z = s_X4_clear Y M4 (o + 31) := ⟨_, rfl⟩
  rw [← hM5] at f1 f2
  have F35 : JFr (o + 29) (o + 33) M3 M5 := (d2.mono (by omega) (by omega)).trans (f2.mono (by omega) (by omega))
  obtain ⟨hS, hB⟩ := q_align_ok bs ls (decide (mo = 1))
  obtain ⟨hS2, hB2⟩ := q_align_ok bs rs (decide (mo = 1))
  obtain ⟨P, hP⟩ : ∃ z, z = (q_align bs ls (decide (mo = 1))).1 := ⟨_, rfl⟩
  obtain ⟨Q, hQ⟩ : ∃ z, z = (q_align bs rs (decide (mo = 1))).1 := ⟨_, rfl⟩
  have hMV := q_mgs_MV (w := decide (mo = 1)) (sh := decide (sh ≠ 0)) ⟨e1, e2, e3⟩
  have hmg : q_mgs bs ls rs (decide (mo = 1)) (decide (sh ≠ 0)) = q_merge bs ls rs (decide (sh ≠ 0)) (lk P) (lk Q) := by
    unfold q_mgs
    rw [← hP, ← hQ]
  rw [hmg] at hMV ⊢
  rw [← hP] at hS hB b3
  rw [← hQ] at hS2 hB2 c3
  have hA1 := (b3.frame c2 (by omega)).frame F35 (by omega)
  have hA2 := c3.frame F35 (by omega)
  have L1 := ((a3.frame b2 (by omega)).frame c2 (by omega)).frame F35 (by omega)
  have L2 := ((a4.frame b2 (by omega)).frame c2 (by omega)).frame F35 (by omega)
  have L3 := ((a5.frame b2 (by omega)).frame c2 (by omega)).frame F35 (by omega)
  obtain ⟨M6, p1, p2, p3, p4⟩ := p_mgLoop hy' sh (lk_PM hS hB) hB (lk_PM hS2 hB2) hB2 bs.length 0 0 0 0 j_fuel M5 [] (by omega) (j_fuel_gt (by omega)) MI.zero (fun _ _ _ _ => Nat.zero_le _) (fun _ _ _ _ => Nat.zero_le _) L1 L2 L3 hA1 hA2 (d1.frame f2 (by omega)) f1
  have hmi := q_mg_ok (bs := bs) (ls := ls) (rs := rs) (sh := decide (sh ≠ 0)) (lk_PM hS hB) (lk_PM hS2 hB2) bs.length 0 0 0 0 [] (by omega) MI.zero (fun _ _ _ _ => Nat.zero_le _) (fun _ _ _ _ => Nat.zero_le _)
  have hqm : q_merge bs ls rs (decide (sh ≠ 0)) (lk P) (lk Q) = (q_mg bs ls rs (decide (sh ≠ 0)) (lk P) (lk Q) bs.length 0 0 0 0 []).1 ++ q_reg bs ls rs (decide (sh ≠ 0)) (q_mg bs ls rs (decide (sh ≠ 0)) (lk P) (lk Q) bs.length 0 0 0 0 []).2.1 bs.length (q_mg bs ls rs (decide (sh ≠ 0)) (lk P) (lk Q) bs.length 0 0 0 0 []).2.2.1 ls.length (q_mg bs ls rs (decide (sh ≠ 0)) (lk P) (lk Q) bs.length 0 0 0 0 []).2.2.2 rs.length := rfl
  obtain ⟨S, hS9⟩ : ∃ z, z = q_mg bs ls rs (decide (sh ≠ 0)) (lk P) (lk Q) bs.length 0 0 0 0 [] := ⟨_, rfl⟩
  rw [← hS9] at p1 p3 p4 hmi hqm
  obtain ⟨m1, m2, m3, m4, m5, m6⟩ := hmi
  obtain ⟨r, M7, M8, u1, u2, u3, u4, u5⟩ := p_region (i0 := S.2.1) (i1 := bs.length) (j0 := S.2.2.1) (j1 := ls.length) (k0 := S.2.2.2) (k1 := rs.length) hy' (L1.frame p2 (by omega)) (L2.frame p2 (by omega)) (L3.frame p2 (by omega)) p3 (by rw [List.length_map]; omega) p4 (by rw [List.length_map]; omega) (by omega) (by omega) (by omega) sh
  rw [← List.map_append, ← hqm, ← k_tb_m1 0] at u4
  have u6 : LN M8 (o + 31) 100 ((k_cr 0 (q_merge bs ls rs (decide (sh ≠ 0)) (lk P) (lk Q))).map nI) := by
    rw [hqm, k_cr_app, List.map_append, Nat.zero_add]
    rw [List.length_map] at u5
    exact u5
  have f9 : JFr o (o + 1) M8 (j_up M8 o 8 1) := JFr.up
  have G : JFr (o + 29) (o + 33) M5 M8 := p2.trans u3
  have L4 := (L1.frame G (by omega)).frame f9 (by omega)
  have L5 := (L2.frame G (by omega)).frame f9 (by omega)
  have L6 := (L3.frame G (by omega)).frame f9 (by omega)
  obtain ⟨v1, v2, v3, v4, v5, v6⟩ := hMV
  obtain ⟨M9, w1, w2, w3⟩ := p_writeResult hy' (by omega) v2 (by omega) L4 L5 L6 (u4.frame f9 (by omega))
  have H1 : JFr o (o + 1) M8 (j_up M8 o 8 1) := f9
  have FF : JFr o (o + 35) M M9 := ((F3.mono (by omega) (by omega)).trans ((F35.trans G).mono (by omega) (by omega))).trans ((f9.mono (by omega) (by omega)).trans (w2.mono (by omega) (by omega)))
  have hA1' := (((b3.frame c2 (by omega)).frame (F35.trans G) (by omega)).frame f9 (by omega)).frame w2 (by omega)
  have hA2' := ((c3.frame (F35.trans G) (by omega)).frame f9 (by omega)).frame w2 (by omega)
  refine ⟨M1, M9, a1, ?_, a2, FF, ?_, ⟨t1, hA1'.2.2.2.2.1, hA1'.2.2.2.2.2⟩, ⟨t2, hA2'.2.2.2.2.1, hA2'.2.2.2.2.2⟩, ?_, fun _ => ⟨L4.frame w2 (by omega), L5.frame w2 (by omega), L6.frame w2 (by omega), ⟨v1, v2, v3, v4, v5, v6⟩, (u4.frame f9 (by omega)).frame w2 (by omega), (u6.frame f9 (by omega)).frame w2 (by omega), w3⟩⟩
  · unfold s_X5_make
    rw [y0, y1, y2, y3, y4, y5, y6, b1]
    dsimp only [Option.bind]
    rw [c1]
    dsimp only [lt_]
    rw [nI_0] at p1
    rw [← hM4, ← hM5, p1]
    dsimp only
    rw [p_size (L1.frame p2 (by omega)), p_size (L2.frame p2 (by omega)), p_size (L3.frame p2 (by omega)), u1]
    dsimp only
    rw [u2]
    dsimp only
    rw [w1]
    dsimp only
    rw [p_size ((u6.frame f9 (by omega)).frame w2 (by omega)), List.length_map]
  · rw [w2 o (by omega), j_up_s]
    rfl
  · exact ((u4.frame f9 (by omega)).frame w2 (by omega)).1
end MGZ

/-! ===== pure: the law: two inputs, the documents that were saved, a merge of one document ===== -/
def rdl (f : Nat → Int32) : Nat → Nat → List Int32
  | _, 0 => []
  | i, d + 1 => f i :: rdl f (i + 1) d
section PE1
variable {Y : JY} {M : JM} {L : Nat} {sc : Nat → Int32} {md sh : Int32} {ds : Nat → List Int32} {hs : List (Nat × List Int32)} {es : Nat → List Int32} {sm sv : Int32}
theorem f_feed_loop (hY : YH Y) {q N : Nat} (hq : 140 ≤ q) (hl : j_ln Y q = N) (hN : N ≤ 50) : ∀ (d i n : Nat) (M : JM) (tp : List Int32), N = i + d → d < n → tp.length = i → ST M md sh ds hs tp es sm sv →
    ∃ M', lp_L_feed_1 Y q 0 n (nI i) M = some M' ∧ CF [(48, 53)] [] M M' ∧ ST M' md sh ds hs (tp ++ rdl (M q) i d) es sm sv := by
  intro d
  induction d with
  | zero =>
    intro i n M tp hi hn ht h
    obtain ⟨n, rfl⟩ : ∃ z, n = z + 1 := ⟨n - 1, by omega⟩
    refine ⟨M, ?_, CF.refl, by show ST M md sh ds hs (tp ++ []) es sm sv; rw [List.append_nil]; exact h⟩
    rw [lp_L_feed_1, hl, if_pos (show Int32.ofNat N ≤ nI i from nI_le (by omega) (by omega))]
  | succ d ih =>
    intro i n M tp hi hn ht h
    obtain ⟨n, rfl⟩ : ∃ z, n = z + 1 := ⟨n - 1, by omega⟩
    obtain ⟨u, M1, a1, a2, a3⟩ := k_feed hY h (by omega) (M q i)
    have mq : M1 q = M q := a2.out (Or.inr (by decide)) hq
    obtain ⟨M', b1, b2, b3⟩ := ih (i + 1) n M1 (tp ++ [M q i]) (by omega) (by omega) (by rw [List.length_append, List.length_singleton]; omega) a3
    refine ⟨M', ?_, a2.trans b2, ?_⟩
    · rw [lp_L_feed_1, hl, if_neg (show ¬ Int32.ofNat N ≤ nI i from nI_ge (by omega) (by omega)), if_pos (j_gI (by omega) (by omega)), nI_clamp (by omega), a1]
      dsimp only [Option.bind, lt_]
      rw [nI_1]
      exact b1
    · rw [mq, List.append_assoc] at b3
      exact b3
theorem k_Lfeed (hY : YH Y) {q N : Nat} (hq : 140 ≤ q) (hl : j_ln Y q = N) (hN : N ≤ 50) (h : ST M md sh ds hs [] es sm sv) : ∃ M', s_L_feed Y M 0 q = some M' ∧ CF [(48, 53)] [] M M' ∧ ST M' md sh ds hs (rdl (M q) 0 N) es sm sv := by
  obtain ⟨M', b1, b2, b3⟩ := f_feed_loop hY hq hl hN N 0 j_fuel M [] (by omega) (j_fuel_gt (by omega)) rfl h
  rw [nI_0] at b1
  refine ⟨M', ?_, b2, b3⟩
  unfold s_L_feed
  rw [b1]
  rfl
def in_a : List Int32 := [97, 40, 98, 99, 50, 41, 51]
def in_b : List Int32 := [97, 40, 41]
def doc_a : List Int32 := [0, 1, 2, 2, 1, 2, 2, 1, 2, 2]
theorem in_a_rd : (rd in_a 0 (-1) [] 0 []).1 = none ∧ (rd in_a 0 (-1) [] 0 []).2 = doc_a := by decide +kernel
theorem in_b_rd : (rd in_b 0 (-1) [] 0 []).1 = some 2 := by decide +kernel
theorem nar_c : vp_nar .char 97 = 97 ∧ vp_nar .char 40 = 40 ∧ vp_nar .char 98 = 98 ∧ vp_nar .char 99 = 99 ∧ vp_nar .char 50 = 50 ∧ vp_nar .char 41 = 41 ∧ vp_nar .char 51 = 51 := ⟨rfl, rfl, rfl, rfl, rfl, rfl, rfl⟩
theorem s_4 (hY : YH Y) (l143 : j_ln Y 143 = 7) (h : ST M md sh ds hs [] es sm sv)
    {mg : Bool} {bs0 ls0 rs0 : List Int32} {cs0 : List CK} {cf0 : Nat → Int32} (hG : MG M 92 mg bs0 ls0 rs0 cs0 cf0) (a2 a8 : Int32) :
    ∃ M', sg_4 Y M L sc a2 a8 = some M' ∧ ST M' md sh (f_up ds 3 doc_a) ((3, ds 3) :: hs.take 7) [] es sm sv ∧ MG M' 92 mg bs0 ls0 rs0 cs0 cf0 := by
  obtain ⟨n1, n2, n3, n4, n5, n6, n7⟩ := nar_c
  obtain ⟨N, hN⟩ : ∃ N : JM, N = j_up (j_up (j_up (j_up (j_up (j_up (j_up M 143 0 97) 143 1 40) 143 2 98) 143 3 99) 143 4 50) 143 5 41) 143 6 51 := ⟨_, rfl⟩
  have fN : JFr 143 144 M N := by
    rw [hN]
    exact (((((JFr.up.trans JFr.up).trans JFr.up).trans JFr.up).trans JFr.up).trans JFr.up).trans JFr.up
  have hin : rdl (N 143) 0 7 = in_a := by
    rw [hN]
    simp [rdl, j_up, in_a]
  have hN1 := h.up (hi := 144) (fN.mono (by omega) (by omega))
  obtain ⟨M1, a1, b2, b3⟩ := k_Lfeed (q := 143) hY (by decide) l143 (by decide) hN1
  rw [hin] at b3
  obtain ⟨r1, r2⟩ := in_a_rd
  obtain ⟨M2, c1, c2, c3⟩ := k_read (r := 3) hY b3 (by decide) r1 (by rw [r2]; decide)
  rw [r2, show nI 3 = (3 : Int32) from rfl] at c1
  rw [r2] at c3
  have c3' : ST M2 md sh (f_up ds 3 doc_a) ((3, ds 3) :: hs.take 7) [] es sm sv := c3
  have d3 : f_up ds 3 doc_a 3 = doc_a := f_up_s
  have e0 := k_line (r := 3) (i := 0) hY c3.2.1 (by decide) (by rw [d3]; decide)
  have e1 := k_line (r := 3) (i := 1) hY c3.2.1 (by decide) (by rw [d3]; decide)
  have e3 := k_line (r := 3) (i := 3) hY c3.2.1 (by decide) (by rw [d3]; decide)
  have e4 := k_line (r := 3) (i := 4) hY c3.2.1 (by decide) (by rw [d3]; decide)
  rw [d3, show nI 3 = (3 : Int32) from rfl, nI_0] at e0
  rw [d3, show nI 3 = (3 : Int32) from rfl, show nI 1 = (1 : Int32) from rfl] at e1
  rw [d3, show nI 3 = (3 : Int32) from rfl] at e3
  rw [d3, show nI 3 = (3 : Int32) from rfl, show nI 4 = (4 : Int32) from rfl] at e4
  refine ⟨M2, ?_, c3', (((hG.frame fN (by omega)).cf b2 (by decide)).cf c2 (by decide))⟩
  unfold sg_4
  rw [n1, n2, n3, n4, n5, n6, n7, l143]
  rw [if_pos (show j_g (0 : Int32) 7 by decide)]
  dsimp only [lt_]
  rw [if_pos (show j_g (1 : Int32) 7 by decide), if_pos (show j_g (2 : Int32) 7 by decide), if_pos (show j_g (3 : Int32) 7 by decide), if_pos (show j_g (4 : Int32) 7 by decide), if_pos (show j_g (5 : Int32) 7 by decide), if_pos (show j_g (6 : Int32) 7 by decide)]
  have hN' : j_up (j_up (j_up (j_up (j_up (j_up (j_up M 143 (0 : Int32).toNatClampNeg 97) 143 (1 : Int32).toNatClampNeg 40) 143 (2 : Int32).toNatClampNeg 98) 143 (3 : Int32).toNatClampNeg 99) 143 (4 : Int32).toNatClampNeg 50) 143 (5 : Int32).toNatClampNeg 41) 143 (6 : Int32).toNatClampNeg 51 = N := hN.symm
  rw [hN', a1]
  dsimp only [Option.bind]
  rw [c1]
  dsimp only
  rw [if_pos (show nI doc_a.length = (10 : Int32) from rfl), e0]
  dsimp only
  rw [if_pos (show (doc_a[0]?).getD (-1) = (0 : Int32) from rfl), e1]
  dsimp only
  rw [if_pos (show (doc_a[1]?).getD (-1) = (1 : Int32) from rfl), e3]
  dsimp only
  rw [if_pos (show (doc_a[3]?).getD (-1) = (2 : Int32) from rfl), e4]
  dsimp only
  rw [if_pos (show (doc_a[4]?).getD (-1) = (1 : Int32) from rfl)]
theorem s_5 (hY : YH Y) (l144 : j_ln Y 144 = 3) {old : List Int32} (h : ST M md sh ds ((3, old) :: hs) [] es sm 1) (h10 : (ds 3).length = 10) (he3 : es 3 = [])
    {mg : Bool} {bs0 ls0 rs0 : List Int32} {cs0 : List CK} {cf0 : Nat → Int32} (hG : MG M 92 mg bs0 ls0 rs0 cs0 cf0) :
    ∃ M', sg_5 Y M L sc (nI (f_sum es 0 4)) (nI old.length) = some (1, M') := by
  obtain ⟨n1, n2, n3, n4, n5, n6, n7⟩ := nar_c
  obtain ⟨N, hN⟩ : ∃ N : JM, N = j_up (j_up (j_up M 144 0 97) 144 1 40) 144 2 41 := ⟨_, rfl⟩
  have fN : JFr 144 145 M N := by
    rw [hN]
    exact (JFr.up.trans JFr.up).trans JFr.up
  have hin : rdl (N 144) 0 3 = in_b := by
    rw [hN]
    simp [rdl, j_up, in_b]
  have hN1 := h.up (hi := 145) (fN.mono (by omega) (by omega))
  obtain ⟨M1, a1, b2, b3⟩ := k_Lfeed (q := 144) hY (by decide) l144 (by decide) hN1
  rw [hin] at b3
  obtain ⟨M2, c1, c2, c3⟩ := k_readN (r := 3) hY b3 (by decide) in_b_rd
  rw [show nI 3 = (3 : Int32) from rfl] at c1
  have e1 := k_length (r := 3) hY c3.2.1 (by decide)
  rw [h10, show nI 3 = (3 : Int32) from rfl] at e1
  obtain ⟨M3, d1, d2, d3⟩ := k_undo hY c3 (by decide)
  rw [show nI 3 = (3 : Int32) from rfl] at d1
  have e2 := k_length (r := 3) hY d3.2.1 (by decide)
  rw [f_up_s, show nI 3 = (3 : Int32) from rfl] at e2
  obtain ⟨M4, f1, f2, f3⟩ := k_restore hY d3
  have e3 := k_length (r := 3) hY f3.2.1 (by decide)
  rw [he3, show nI 3 = (3 : Int32) from rfl] at e3
  have hG4 := ((((hG.frame fN (by omega)).cf b2 (by decide)).cf c2 (by decide)).cf d2 (by decide)).cf f2 (by decide)
  obtain ⟨M5, g1, g2, g3⟩ := k_merge (q1 := 0) (q2 := 0) (q3 := 0) hY f3 hG4 (by decide) (by decide) (by decide)
  obtain ⟨k1, k2⟩ := k_res_self (es 0) (decide (sm = 1)) (decide (j_z sh ≠ 0))
  rw [k2, nI_0] at g1
  have f4 := f3.k g2 (by decide) (by decide) (by decide) (by decide) (by decide) (by decide)
  have e4 := k_mergedLength hY g3
  rw [k1] at e4
  have e5 := k_length (r := 0) hY f4.2.1 (by decide)
  rw [nI_0] at e5
  refine ⟨M5, ?_⟩
  unfold sg_5
  rw [n1, n2, n6, l144]
  rw [if_pos (show j_g (0 : Int32) 3 by decide)]
  dsimp only [lt_]
  rw [if_pos (show j_g (1 : Int32) 3 by decide), if_pos (show j_g (2 : Int32) 3 by decide)]
  have hN' : j_up (j_up (j_up M 144 (0 : Int32).toNatClampNeg 97) 144 (1 : Int32).toNatClampNeg 40) 144 (2 : Int32).toNatClampNeg 41 = N := hN.symm
  rw [hN', a1]
  dsimp only [Option.bind]
  rw [c1]
  dsimp only
  rw [if_pos (show (-100 : Int32) - nI 2 = (-102 : Int32) by decide), e1]
  dsimp only
  rw [if_pos (show nI 10 = (10 : Int32) from rfl), d1]
  dsimp only
  rw [if_pos rfl, e2]
  dsimp only
  rw [if_pos rfl, f1]
  dsimp only
  rw [if_pos rfl, e3]
  dsimp only
  rw [if_pos (show nI ([] : List Int32).length = (0 : Int32) from rfl), g1]
  dsimp only
  rw [if_pos rfl, e4]
  dsimp only
  rw [e5]
  dsimp only
  rw [if_pos rfl]
end PE1

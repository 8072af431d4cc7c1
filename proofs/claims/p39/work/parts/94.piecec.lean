/-! ===== pure: the law: save, compare, moves ===== -/
theorem ST.up {M M1 : JM} {hi : Nat} {md sh : Int32} {ds : Nat → List Int32} {hs : List (Nat × List Int32)} {tp : List Int32} {es : Nat → List Int32} {sm sv : Int32} (h : ST M md sh ds hs tp es sm sv) (hf : JFr 140 hi M M1) : ST M1 md sh ds hs tp es sm sv := by
  obtain ⟨⟨a1, a2, a3, a4⟩, b, c, d, e, xs, f⟩ := h
  have e0 : M1 0 = M 0 := hf 0 (by omega)
  exact ⟨⟨by rw [e0]; exact a1, by rw [e0]; exact a2, by rw [e0]; exact a3, by rw [e0]; exact a4⟩, b.frame hf (by omega), c.frame hf (by omega), d.frame hf (by omega), e.frame hf (by omega), xs, f.frame hf (by omega)⟩
theorem t_at_mid {A B : List (List Int32)} {r : List Int32} {j : Nat} : t_at (A ++ r :: B) A.length j = (r[j]?).getD (-1) := by
  unfold t_at
  rw [List.getElem?_append_right (Nat.le_refl _), Nat.sub_self]
  rfl
theorem q_mk_s {f : Nat → Bool} {a i t : Nat} (h : q_mk f a (i + 1) t = true) : q_mk f a i t = true ∧ t ≠ a + i := by
  unfold q_mk at h ⊢
  simp only [Bool.and_eq_true, Bool.not_eq_true', Bool.and_eq_false_iff, decide_eq_false_iff_not] at h ⊢
  refine ⟨⟨h.1, ?_⟩, ?_⟩
  · rcases h.2 with h2 | h2
    · exact Or.inl h2
    · exact Or.inr (by omega)
  · rcases h.2 with h2 | h2 <;> omega
theorem q_mk_at {f : Nat → Bool} {a i : Nat} (h : f (a + i) = true) : q_mk f a i (a + i) = true := by
  unfold q_mk
  rw [h, decide_eq_false (show ¬ a + i < a + i by omega)]
  simp
theorem q_mk_0 {f : Nat → Bool} {a t : Nat} (h : q_mk f a 0 t = true) : f t = true := q_mk_sub t h
section PC1
variable {Y : JY} {M : JM} {L : Nat} {sc : Nat → Int32} {md sh : Int32} {ds : Nat → List Int32} {hs : List (Nat × List Int32)} {es : Nat → List Int32} {sm sv : Int32}
theorem s_1 (hY : YH Y) (h : ST M md sh ds hs [] es sm sv) {mk : Bool} {xs0 ys0 : List Int32} {P0 : List (Nat × Nat)} {anc0 : Nat} {mv0 : List (List Int32)} (hC : CM M 66 mk xs0 ys0 P0 anc0 mv0) :
    ∃ mn M' P anc, 1 ≤ mn ∧ mn ≤ 4 ∧ sg_1 Y M L sc = some (nI (f_sum ds 0 4), nI mn, nI (q_mv (ds 1) (ds 2) mn 24 (q_fa P) (q_fb P) []).length, M') ∧ CF [(13, 25), (66, 92)] [10, 11] M M' ∧ ST M' md sh ds hs [] ds md 1 ∧ CM M' 66 true (ds 1) (ds 2) P anc (q_mv (ds 1) (ds 2) mn 24 (q_fa P) (q_fb P) []) := by
  obtain ⟨z, hz, e⟩ := x_mask (sc_at L sc (9 : Int32)) 3
  rw [show nI 3 = (3 : Int32) from rfl] at e
  obtain ⟨M1, a1, a2, a3⟩ := k_save hY h
  obtain ⟨v, M2, b1, b2, b3⟩ := k_compare (f := 1) (r := 2) hY a3 (hC.cf a2 (by decide)) (by decide) (by decide)
  have a4 := a3.k b2 (by decide) (by decide) (by decide) (by decide) (by decide) (by decide)
  obtain ⟨M3, c1, c2, c3⟩ := k_findMoves (mn := 1 + z) hY b3 (by omega) (by omega)
  refine ⟨1 + z, M3, _, _, by omega, by omega, ?_, (a2.wide (by decide) (by decide)).trans ((b2.wide (by decide) (by decide)).trans (c2.wide (by decide) (by decide))), a4.k c2 (by decide) (by decide) (by decide) (by decide) (by decide) (by decide), c3⟩
  unfold sg_1
  rw [a1]
  dsimp only [Option.bind, lt_]
  rw [show nI 1 = (1 : Int32) from rfl, show nI 2 = (2 : Int32) from rfl] at b1
  rw [b1]
  dsimp only
  rw [e, show (1 : Int32) + nI z = nI (1 + z) from nI_add 1 z, c1]
section PC2
variable {xs ys : List Int32} {P : List (Nat × Nat)} {anc : Nat} {mv : List (List Int32)} {mn : Nat}
theorem m_inner (hY : YH Y) (l140 : j_ln Y 140 = 24) (l141 : j_ln Y 141 = 24) {fa fb : Nat → Bool} {a b s : Nat} (hx24 : xs.length ≤ 24) (hy24 : ys.length ≤ 24) (hx : ds 1 = xs) (hy : ds 2 = ys) (hq : ∀ t, t < s → q_mb xs ys fa fb (a + t) (b + t)) (hfa : ∀ t, fa t = true → q_fa P t = true) :
    ∀ (d i n : Nat) (M : JM), s = i + d → d < n → s ≤ 24 → CM M 66 true xs ys P anc mv → SH M 1 4 ds → (∀ t, q_mk fa a i t = true → M 140 t = 0) → (∀ t, q_mk fb b i t = true → M 141 t = 0) →
      ∃ M', lp_g2_2 Y (nI s) (nI a) (nI b) n (nI i) M = some M' ∧ JFr 140 142 M M' ∧ (∀ t, q_mk fa a s t = true → M' 140 t = 0) ∧ (∀ t, q_mk fb b s t = true → M' 141 t = 0) := by
  intro d
  induction d with
  | zero =>
    intro i n M hi hn hs hC hS h1 h2
    obtain ⟨n, rfl⟩ : ∃ z, n = z + 1 := ⟨n - 1, by omega⟩
    have es : s = i := by omega
    refine ⟨M, ?_, JFr.refl, by rw [es]; exact h1, by rw [es]; exact h2⟩
    rw [lp_g2_2, if_pos (nI_le (by omega) (by omega))]
  | succ d ih =>
    intro i n M hi hn hs hC hS h1 h2
    obtain ⟨n, rfl⟩ : ∃ z, n = z + 1 := ⟨n - 1, by omega⟩
    obtain ⟨g1, g2, g3, g4, g5⟩ := hq i (by omega)
    have u1 := h1 (a + i) (q_mk_at g3)
    have u2 := h2 (b + i) (q_mk_at g4)
    have e1 := k_line (r := 1) (i := a + i) hY hS (by decide) (by rw [hx]; exact g1)
    have e2 := k_line (r := 2) (i := b + i) hY hS (by decide) (by rw [hy]; exact g2)
    rw [hx, show nI 1 = (1 : Int32) from rfl] at e1
    rw [hy, show nI 2 = (2 : Int32) from rfl] at e2
    have hp : lk P (a + i) = none := by
      have := hfa _ g3
      unfold q_fa at this
      exact Option.isNone_iff_eq_none.mp this
    have e3 := k_partner (i := a + i) hY hC g1
    rw [hp] at e3
    have j1 : j_g (nI (a + i)) (j_ln Y 140) := by rw [l140]; exact j_gI (by omega) (by omega)
    have j2 : j_g (nI (b + i)) (j_ln Y 141) := by rw [l141]; exact j_gI (by omega) (by omega)
    have f1 : JFr 140 142 M (j_up (j_up M 140 (a + i) 1) 141 (b + i) 1) := (JFr.up.mono (by omega) (by omega)).trans (JFr.up.mono (by omega) (by omega))
    obtain ⟨M', b1, b2, b3, b4⟩ := ih (i + 1) n (j_up (j_up M 140 (a + i) 1) 141 (b + i) 1) (by omega) (by omega) hs (hC.frame f1 (by omega)) (hS.frame f1 (by omega)) (fun t ht => by
      obtain ⟨q1, q2⟩ := q_mk_s ht
      rw [j_up_o (by decide), j_up_k q2]
      exact h1 t q1) (fun t ht => by
      obtain ⟨q1, q2⟩ := q_mk_s ht
      rw [j_up_k q2, j_up_o (by decide)]
      exact h2 t q1)
    refine ⟨M', ?_, f1.trans b2, b3, b4⟩
    rw [lp_g2_2, if_neg (nI_ge (by omega) (by omega)), nI_add, nI_add, e1]
    dsimp only [Option.bind]
    rw [e2]
    dsimp only
    rw [if_pos g5, e3]
    dsimp only
    rw [if_pos (show oI none = (-1 : Int32) from rfl), if_pos j1]
    simp only [nI_clamp (show a + i < 2 ^ 31 by omega), nI_clamp (show b + i < 2 ^ 31 by omega)]
    rw [if_pos u1, if_pos j2, if_pos u2, if_pos j1]
    dsimp only [lt_]
    rw [if_pos j2, nI_1]
    exact b1
theorem m_outer (hY : YH Y) (l140 : j_ln Y 140 = 24) (l141 : j_ln Y 141 = 24) (hx24 : xs.length ≤ 24) (hy24 : ys.length ≤ 24) (hx : ds 1 = xs) (hy : ds 2 = ys) (hmv : mv.length ≤ 24) (hmn : mn ≤ 9) :
    ∀ (rest done : List (List Int32)) (n : Nat) (M : JM) (fa fb : Nat → Bool) (B : Nat), mv = done ++ rest → rest.length < n → MVL xs ys mn B fa fb rest → (∀ k, done.length = k + 1 → t_at mv k 2 = nI B) → B ≤ 24 → (∀ t, fa t = true → q_fa P t = true) → CM M 66 true xs ys P anc mv → SH M 1 4 ds → (∀ t, fa t = true → M 140 t = 0) → (∀ t, fb t = true → M 141 t = 0) →
      ∃ M', lp_g2_1 Y (nI mv.length) (nI mn) n (nI done.length) M = some M' ∧ JFr 140 142 M M' := by
  intro rest
  induction rest with
  | nil =>
    intro done n M fa fb B he hn hL hk hB hfa hC hS h1 h2
    obtain ⟨n, rfl⟩ : ∃ z, n = z + 1 := ⟨n - 1, by omega⟩
    rw [List.append_nil] at he
    refine ⟨M, ?_, JFr.refl⟩
    rw [lp_g2_1, if_pos (nI_le (by rw [he]; exact Nat.le_refl _) (by rw [← he]; omega))]
  | cons r rest ih =>
    intro done n M fa fb B he hn hL hk hB hfa hC hS h1 h2
    obtain ⟨n, rfl⟩ : ∃ z, n = z + 1 := ⟨n - 1, by omega⟩
    obtain ⟨a, b, s, rfl, p1, p2, ⟨p3, p4⟩, p5, p6⟩ := hL
    have hlen : mv.length = done.length + (rest.length + 1) := by rw [he, List.length_append, List.length_cons]
    have hkl : done.length < mv.length := by omega
    have v0 := k_move (i := done.length) (j := 0) hY hC hkl (by decide)
    have v1 := k_move (i := done.length) (j := 1) hY hC hkl (by decide)
    have v2 := k_move (i := done.length) (j := 2) hY hC hkl (by decide)
    have r0 : t_at mv done.length 0 = nI a := by rw [he, t_at_mid]; rfl
    have r1 : t_at mv done.length 1 = nI b := by rw [he, t_at_mid]; rfl
    have r2 : t_at mv done.length 2 = nI s := by rw [he, t_at_mid]; rfl
    rw [r0, show nI 0 = (0 : Int32) from nI_0] at v0
    rw [r1, show nI 1 = (1 : Int32) from rfl] at v1
    rw [r2, show nI 2 = (2 : Int32) from rfl] at v2
    obtain ⟨M1, b1, b2, b3, b4⟩ := m_inner hY l140 l141 (s := s) hx24 hy24 hx hy p5 hfa s 0 j_fuel M (by omega) (j_fuel_gt (by omega)) (by omega) hC hS (fun t ht => h1 t (q_mk_0 ht)) (fun t ht => h2 t (q_mk_0 ht))
    rw [nI_0] at b1
    obtain ⟨M', c1, c2⟩ := ih (done ++ [[nI a, nI b, nI s]]) n M1 (q_mk fa a s) (q_mk fb b s) s (by rw [he, List.append_assoc]; rfl) (by rw [List.length_cons] at hn; omega) p6 (fun k hk9 => by
      rw [List.length_append, List.length_singleton] at hk9
      rw [show k = done.length by omega]
      exact r2) (by omega) (fun t ht => hfa t (q_mk_sub t ht)) (hC.frame b2 (by omega)) (hS.frame b2 (by omega)) b3 b4
    refine ⟨M', ?_, b2.trans c2⟩
    have hprev : (if nI done.length ≤ 0 then (some ()) else ((s_X9_move Y M 0 (nI done.length - (1 : Int32)) (2 : Int32)).bind fun xx11 => if nI s ≤ xx11 then (some ()) else (none))) = some () := by
      by_cases q : done.length = 0
      · rw [if_pos ((nI_le0 (by omega)).mpr q)]
      · obtain ⟨k, hk9⟩ : ∃ k, done.length = k + 1 := ⟨done.length - 1, by omega⟩
        have v3 := k_move (i := k) (j := 2) hY hC (by omega) (by decide)
        rw [hk k hk9, show nI 2 = (2 : Int32) from rfl] at v3
        rw [if_neg (fun c => q ((nI_le0 (by omega)).mp c)), hk9, nI_pd, v3]
        dsimp only [Option.bind]
        rw [if_pos (nI_le p2 (by omega))]
    rw [lp_g2_1, if_neg (nI_ge hkl (by omega)), v0]
    dsimp only [Option.bind]
    rw [v1]
    dsimp only
    rw [v2]
    dsimp only
    rw [if_neg (nI_nlt p1 (by omega))]
    dsimp only [Option.bind] at hprev
    rw [hprev]
    dsimp only
    rw [b1]
    dsimp only [lt_]
    rw [nI_1]
    rw [List.length_append, List.length_singleton] at c1
    exact c1
end PC2
theorem m_front (hY : YH Y) : ∀ (d i n : Nat) (M : JM) (ds : Nat → List Int32) (hs : List (Nat × List Int32)), 3 = i + d → d < n → (ds 3).length ≤ 24 → ST M md sh ds hs [] es sm sv →
    ∃ M' ds' hs', lp_g2_3 Y n (nI i) M = some M' ∧ CF [(1, 13), (25, 48)] [] M M' ∧ ST M' md sh ds' hs' [] es sm sv ∧ (∀ r, r ≠ 3 → ds' r = ds r) ∧ (ds' 3).length ≤ 24 := by
  intro d
  induction d with
  | zero =>
    intro i n M ds hs hi hn hl h
    obtain ⟨n, rfl⟩ : ∃ z, n = z + 1 := ⟨n - 1, by omega⟩
    refine ⟨M, ds, hs, ?_, CF.refl, h, fun _ _ => rfl, hl⟩
    rw [lp_g2_3, if_pos (by rw [show (3 : Int32) = nI 3 from rfl]; exact nI_le (by omega) (by omega))]
  | succ d ih =>
    intro i n M ds hs hi hn hl h
    obtain ⟨n, rfl⟩ : ∃ z, n = z + 1 := ⟨n - 1, by omega⟩
    have e := k_length (r := 3) hY h.2.1 (by decide)
    rw [show nI 3 = (3 : Int32) from rfl] at e
    have hi3 : ¬ (3 : Int32) ≤ nI i := by rw [show (3 : Int32) = nI 3 from rfl]; exact nI_ge (by omega) (by omega)
    by_cases q : 24 ≤ (ds 3).length
    · refine ⟨M, ds, hs, ?_, CF.refl, h, fun _ _ => rfl, hl⟩
      rw [lp_g2_3, if_neg hi3, e]
      dsimp only [Option.bind]
      rw [if_pos (by rw [show (24 : Int32) = nI 24 from rfl]; exact nI_le q (by omega))]
    · obtain ⟨M1, a1, a2, a3⟩ := k_insert (r := 3) (i := 0) (w := 25) hY h (by decide) (by omega) (Nat.zero_le _) (by decide)
      rw [show nI 3 = (3 : Int32) from rfl, nI_0, show nI 25 = (25 : Int32) from rfl] at a1
      obtain ⟨M', ds', hs', b1, b2, b3, b4, b5⟩ := ih (i + 1) n M1 _ _ (by omega) (by omega) (by rw [f_up_s, l_ins_len (Nat.zero_le _)]; omega) a3
      refine ⟨M', ds', hs', ?_, a2.trans b2, b3, fun r hr => by rw [b4 r hr, f_up_n hr], b5⟩
      rw [lp_g2_3, if_neg hi3, e]
      dsimp only [Option.bind]
      rw [if_neg (by rw [show (24 : Int32) = nI 24 from rfl]; exact nI_ge (by omega) (by omega)), a1]
      dsimp only [lt_]
      rw [nI_1]
      exact b1
theorem s_2 (hY : YH Y) (l140 : j_ln Y 140 = 24) (l141 : j_ln Y 141 = 24) (h : ST M md sh ds hs [] es sm sv) (hlen : ∀ r, r < 4 → (ds r).length ≤ 20) {P : List (Nat × Nat)} {anc mn : Nat} (hm1 : 1 ≤ mn) (hm9 : mn ≤ 4) (hC : CM M 66 true (ds 1) (ds 2) P anc (q_mv (ds 1) (ds 2) mn 24 (q_fa P) (q_fb P) []))
    {mg : Bool} {bs0 ls0 rs0 : List Int32} {cs0 : List CK} {cf0 : Nat → Int32} (hG : MG M 92 mg bs0 ls0 rs0 cs0 cf0) {mp : Bool} {xs0 ys0 : List Int32} {hs0 : List HK} {kp0 : List (List Int32)} (hP : PC M 127 mp xs0 ys0 hs0 kp0) (z1 : ∀ t, M 140 t = 0) (z2 : ∀ t, M 141 t = 0) (a2 : Int32) :
    ∃ M' ph ds' hs', sg_2 Y M L sc a2 (nI mn) (nI (q_mv (ds 1) (ds 2) mn 24 (q_fa P) (q_fb P) []).length) = some (nI ph.length, nI (ds' 3).length, M') ∧ ST M' md sh ds' hs' [] es sm sv ∧ PC M' 127 true (ds 1) (ds 2) ph [] ∧ MG M' 92 mg bs0 ls0 rs0 cs0 cf0 ∧ (∀ r, r ≠ 3 → ds' r = ds r) ∧ (ds' 3).length ≤ 24 := by
  have hl1 := hlen 1 (by decide)
  have hl2 := hlen 2 (by decide)
  have hmv := q_mv_len (xs := ds 1) (ys := ds 2) (mn := mn) 24 (q_fa P) (q_fb P) []
  rw [List.length_nil, Nat.zero_add] at hmv
  obtain ⟨M1, b1, b2⟩ := m_outer hY l140 l141 (by omega) (by omega) rfl rfl hmv (by omega) (q_mv (ds 1) (ds 2) mn 24 (q_fa P) (q_fb P) []) [] j_fuel M (q_fa P) (q_fb P) 24 rfl (j_fuel_gt (by omega)) (q_moves hm1 (by omega) (by omega) _ _) (fun k hk => by simp at hk) (Nat.le_refl _) (fun t ht => ht) hC h.2.1 (fun t _ => z1 t) (fun t _ => z2 t)
  rw [List.length_nil, nI_0] at b1
  obtain ⟨z, hz, e⟩ := x_mask ((sc_at L sc (9 : Int32)) >>> ((2 : Int32) &&& 31)) 1
  rw [show nI 1 = (1 : Int32) from rfl] at e
  have hP1 := hP.frame b2 (by omega)
  have h1 := h.up b2
  obtain ⟨M2, c1, c2, c3⟩ := k_makePatch (c := 1 + z) hY (hC.frame b2 (by omega)) hP1 (by omega)
  have h2 := h1.k c2 (by decide) (by decide) (by decide) (by decide) (by decide) (by decide)
  obtain ⟨v, M3, d1, d2, d3⟩ := k_copy (f := 1) (r := 3) hY h2 (by decide) (by decide)
  rw [show nI 1 = (1 : Int32) from rfl, show nI 3 = (3 : Int32) from rfl] at d1
  obtain ⟨M4, ds', hs', f1, f2, f3, f4, f5⟩ := m_front hY 3 0 j_fuel M3 _ _ (by omega) (j_fuel_gt (by omega)) (by rw [f_up_s]; omega) d3
  rw [nI_0] at f1
  have e3 := k_length (r := 3) hY f3.2.1 (by decide)
  rw [show nI 3 = (3 : Int32) from rfl] at e3
  refine ⟨M4, _, ds', hs', ?_, f3, (c3.cf d2 (by decide)).cf f2 (by decide), (((hG.frame b2 (by omega)).cf c2 (by decide)).cf d2 (by decide)).cf f2 (by decide), fun r hr => by rw [f4 r hr, f_up_n hr], f5⟩
  unfold sg_2
  rw [b1]
  dsimp only [Option.bind, lt_]
  rw [e, show (1 : Int32) + nI z = nI (1 + z) from nI_add 1 z, c1]
  dsimp only
  rw [d1]
  dsimp only
  rw [f1]
  dsimp only
  rw [e3]
end PC1

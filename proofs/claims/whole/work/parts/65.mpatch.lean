/-! ===== pure: patches; the model makes one ===== -/
def PCm (M : JM) (om : Nat) (mk : Bool) (xs ys : List Int32) (hs : List HK) (kp : List (List Int32)) : Prop :=
  M om 51 = (if mk then 1 else 0) ∧ (mk = false → M om 56 = 0 ∧ kp = []) ∧
    (mk = true → (xs.length ≤ 24 ∧ ys.length ≤ 24 ∧ HC xs.length ys.length 0 0 hs ∧ hs.length ≤ 25) ∧ M om 53 = nI hs.length ∧ TBm M (om + 29) 6 (hs.map h_row) ∧ RA M (om + 30) xs ∧ RA M (om + 31) ys ∧ ((M om 56 = 0 ∧ kp = []) ∨ (M om 56 = 1 ∧ kp.length = hs.length ∧ TBm M (om + 32) 2 kp)))
theorem PCm.fr {M M' : JM} {om : Nat} {A F : List Nat} {mk : Bool} {xs ys : List Int32} {hs : List HK} {kp : List (List Int32)} (h : PCm M om mk xs ys hs kp) (hf : MF om A F M M')
    (h0 : 0 ∉ A) (hA : ∀ t ∈ [29, 30, 31, 32], t ∉ A) (hF : ∀ k ∈ [51, 53, 56], k ∉ F) : PCm M' om mk xs ys hs kp := by
  obtain ⟨a1, a2, a3⟩ := h
  have g : ∀ t, t ∈ [29, 30, 31, 32] → M' (om + t) = M (om + t) := fun t ht => hf.arr (hA t ht) (by rintro rfl; simp at ht)
  have f : ∀ k, k ∈ [51, 53, 56] → M' om k = M om k := fun k hk => hf.fld (hF k hk) h0
  refine ⟨by rw [f 51 (by decide)]; exact a1, fun e => by rw [f 56 (by decide)]; exact a2 e, fun e => ?_⟩
  obtain ⟨b1, b2, b3, b4, b5, b6⟩ := a3 e
  refine ⟨b1, by rw [f 53 (by decide)]; exact b2, b3.eq (g 29 (by decide)), b4.eq (g 30 (by decide)), b5.eq (g 31 (by decide)), ?_⟩
  rw [f 56 (by decide)]
  rcases b6 with b6 | ⟨b6, b7, b8⟩
  · exact Or.inl b6
  · exact Or.inr ⟨b6, b7, b8.eq (g 32 (by decide))⟩
def q_ex (c : Nat) : DF → List DF → Nat
  | _, [] => 0
  | e, x :: ds => if x.1 - e.2.1 ≤ 2 * c then q_ex c x ds + 1 else 0
theorem q_ex_hg {n c : Nat} : ∀ (ds : List DF) (d e : DF), ∃ l, (e :: ds)[q_ex c e ds]? = some l ∧ q_hg n c d e ds = q_hk n c d l :: q_hunks n c (ds.drop (q_ex c e ds)) ∧ (∀ x, ds[q_ex c e ds]? = some x → 2 * c < x.1 - l.2.1) := by
  intro ds
  induction ds with
  | nil => intro d e; exact ⟨e, rfl, rfl, fun x h => absurd h (by simp)⟩
  | cons x ds ih =>
    intro d e
    unfold q_ex q_hg
    by_cases q : x.1 - e.2.1 ≤ 2 * c
    · rw [if_pos q, if_pos q]
      obtain ⟨l, h1, h2, h3⟩ := ih d x
      refine ⟨l, by simpa using h1, ?_, fun y hy => h3 y (by simpa using hy)⟩
      rw [h2, List.drop_succ_cons]
    · rw [if_neg q, if_neg q]
      exact ⟨e, rfl, rfl, fun y hy => by
        have : x = y := by simpa using hy
        rw [← this]
        omega⟩
theorem q_ex_le {c : Nat} : ∀ (ds : List DF) (e : DF), q_ex c e ds ≤ ds.length := by
  intro ds
  induction ds with
  | nil => intro e; exact Nat.le_refl _
  | cons x ds ih =>
    intro e
    unfold q_ex
    have := ih x
    split
    · simp; omega
    · simp
theorem DC.get {n m : Nat} : ∀ (ds : List DF) (pa pb l : Nat) (e : DF), DC n m pa pb ds → ds[l]? = some e → (pa ≤ e.1 ∧ e.1 ≤ e.2.1 ∧ e.2.1 ≤ n) ∧ (pb ≤ e.2.2.1 ∧ e.2.2.1 ≤ e.2.2.2 ∧ e.2.2.2 ≤ m) ∧ DC n m e.2.1 e.2.2.2 (ds.drop (l + 1)) := by
  intro ds
  induction ds with
  | nil => intro pa pb l e _ h; exact absurd h (by simp)
  | cons d ds ih =>
    intro pa pb l e hD h
    obtain ⟨h1, h2, h3, h4⟩ := hD
    cases l with
    | zero =>
      have : d = e := by simpa using h
      rw [← this]
      exact ⟨h1, h2, h4⟩
    | succ l =>
      obtain ⟨g1, g2, g3⟩ := ih _ _ l e h4 (by simpa using h)
      exact ⟨by omega, by omega, g3⟩
theorem nI_6a (c : Nat) : (6 : Int32) * nI c = nI (6 * c) := by rw [show (6 : Int32) = nI 6 from rfl, nI_mul]
theorem nI_2a (c : Nat) : (2 : Int32) * nI c = nI (2 * c) := by rw [show (2 : Int32) = nI 2 from rfl, nI_mul]
section PMM
variable {Y : JY} {M : JM} {om : Nat} {xs ys : List Int32} {hs : List HK} {D : List DF}
theorem m_dat (h : TBm M (om + 19) 4 (D.map d_row)) {i : Nat} {d : DF} (hd : D[i]? = some d) {j : Nat} (hj : j < 4) : M (om + 19) (4 * i + j) = ((d_row d)[j]?).getD (-1) := by
  have hi : i < D.length := by
    apply Classical.byContradiction
    intro q
    rw [List.getElem?_eq_none (by omega)] at hd
    exact absurd hd (by simp)
  rw [← h i (by rw [List.length_map]; exact hi) j hj]
  unfold t_at
  rw [List.getElem?_map, hd]
  rfl
theorem m_patch1 (hy : MdAt Y om) : ∀ (d i n : Nat) (M : JM), 24 = i + d → d < n → (∀ t, t < i → M (om + 30) t = M (om + 15) t ∧ M (om + 31) t = M (om + 16) t) →
      ∃ M', lp_X10_makePatch_1 Y om n (nI i) M = some M' ∧ MF om [30, 31] [] M M' ∧ ∀ t, t < 24 → M' (om + 30) t = M' (om + 15) t ∧ M' (om + 31) t = M' (om + 16) t := by
  have e26 : j_rf Y om 26 = om + 15 := (hy (26, 15, 24) (by decide)).1
  have e28 : j_rf Y om 28 = om + 16 := (hy (28, 16, 24) (by decide)).1
  have e54 : j_rf Y om 54 = om + 30 := (hy (54, 30, 24) (by decide)).1
  have e55 : j_rf Y om 55 = om + 31 := (hy (55, 31, 24) (by decide)).1
  have l26 : j_ln Y (om + 15) = 24 := (hy (26, 15, 24) (by decide)).2
  have l28 : j_ln Y (om + 16) = 24 := (hy (28, 16, 24) (by decide)).2
  have l54 : j_ln Y (om + 30) = 24 := (hy (54, 30, 24) (by decide)).2
  have l55 : j_ln Y (om + 31) = 24 := (hy (55, 31, 24) (by decide)).2
  intro d
  induction d with
  | zero =>
    intro i n M hi hn hA
    obtain ⟨n, rfl⟩ : ∃ z, n = z + 1 := ⟨n - 1, by omega⟩
    have ei : i = 24 := by omega
    subst ei
    refine ⟨M, ?_, MF.refl, hA⟩
    unfold lp_X10_makePatch_1
    rw [if_pos (by decide)]
  | succ d ih =>
    intro i n M hi hn hA
    obtain ⟨n, rfl⟩ : ∃ z, n = z + 1 := ⟨n - 1, by omega⟩
    have f1 : MF om [30] [] M (j_up M (om + 30) i (M (om + 15) i)) := MF.ua
    have f2 : MF om [31] [] (j_up M (om + 30) i (M (om + 15) i)) (j_up (j_up M (om + 30) i (M (om + 15) i)) (om + 31) i (M (om + 16) i)) := MF.ua
    have F : MF om [30, 31] [] M (j_up (j_up M (om + 30) i (M (om + 15) i)) (om + 31) i (M (om + 16) i)) := (f1.mono (by simp) (by simp)).trans (f2.mono (by simp) (by simp))
    obtain ⟨M', a1, a2, a3⟩ := ih (i + 1) n (j_up (j_up M (om + 30) i (M (om + 15) i)) (om + 31) i (M (om + 16) i)) (by omega) (by omega) (fun t ht => by
      rw [F.arr (t := 15) (by decide) (by decide), F.arr (t := 16) (by decide) (by decide), f2.arr (t := 30) (by decide) (by decide)]
      by_cases e : t = i
      · rw [e, j_up_s, j_up_s]
        exact ⟨rfl, rfl⟩
      · rw [j_up_k e, j_up_k e, f1.arr (t := 31) (by decide) (by decide)]
        exact hA t (by omega))
    refine ⟨M', ?_, F.trans a2, a3⟩
    have e24 : ¬ (24 : Int32) ≤ nI i := by rw [show (24 : Int32) = nI 24 from rfl]; exact nI_ge (by omega) (by omega)
    have hgi : j_g (nI i) 24 := j_g_nI (by omega) (by omega)
    unfold lp_X10_makePatch_1
    rw [if_neg e24, e26, e28, e54, e55, l26, l28, l54, l55]
    dsimp only [lt_]
    simp only [if_pos hgi, nI_clamp (show i < 2 ^ 31 by omega), nI_1]
    rw [f1.arr (t := 16) (by decide) (by decide)]
    exact a1
theorem m_patch3 (hy : MdAt Y om) (h35 : M om 35 = nI D.length) (hT : TBm M (om + 19) 4 (D.map d_row)) (hDl : D.length ≤ 25) {c : Nat} (hc : c ≤ 3) {nn mm : Nat} (hnn : nn ≤ 24) (hmm : mm ≤ 24) : ∀ (k i n : Nat) (e : DF), D.length = i + 1 + k → k < n → D[i]? = some e → DC nn mm e.2.1 e.2.2.2 (D.drop (i + 1)) → e.2.1 ≤ nn →
      lp_X10_makePatch_3 Y M om (nI c) n (nI i) = some (nI (i + q_ex c e (D.drop (i + 1)))) := by
  have e34 : j_rf Y om 34 = om + 19 := (hy (34, 19, 120) (by decide)).1
  have l34 : j_ln Y (om + 19) = 120 := (hy (34, 19, 120) (by decide)).2
  intro k
  induction k with
  | zero =>
    intro i n e hk hn he hD hen
    obtain ⟨n, rfl⟩ : ∃ z, n = z + 1 := ⟨n - 1, by omega⟩
    unfold lp_X10_makePatch_3
    rw [h35, nI_1, if_pos (nI_le (by omega) (by omega)), List.drop_eq_nil_of_le (by omega)]
    rfl
  | succ k ih =>
    intro i n e hk hn he hD hen
    obtain ⟨n, rfl⟩ : ∃ z, n = z + 1 := ⟨n - 1, by omega⟩
    have hi1 : i + 1 < D.length := by omega
    have e0 := List.drop_eq_getElem_cons hi1
    obtain ⟨x, hxx⟩ : ∃ z, z = D[i + 1] := ⟨_, rfl⟩
    rw [← hxx] at e0
    have hx1 : D[i + 1]? = some x := by rw [List.getElem?_eq_getElem hi1, ← hxx]
    rw [e0] at hD ⊢
    obtain ⟨⟨u1, u2, u3⟩, ⟨u4, u5, u6⟩, u7, u8⟩ := hD
    have p0 : M (om + 19) (4 * i + 4) = nI x.1 := m_dat hT hx1 (show 0 < 4 by decide)
    have p1 : M (om + 19) (4 * i + 1) = nI e.2.1 := m_dat hT he (show 1 < 4 by decide)
    have hg4 : j_g (nI (4 * i + 4)) 120 := j_g_nI (by omega) (by omega)
    have hg1 : j_g (nI (4 * i + 1)) 120 := j_g_nI (by omega) (by omega)
    unfold lp_X10_makePatch_3 q_ex
    rw [h35, nI_1, if_neg (nI_ge (by omega) (by omega)), nI_4a, e34, l34, show nI (4 * i) + (4 : Int32) = nI (4 * i + 4) from nI_add _ 4, show nI (4 * i) + (1 : Int32) = nI (4 * i + 1) from nI_add _ 1, if_pos hg4, if_pos hg1, nI_clamp (by omega), nI_clamp (by omega), p0, p1, nI_sb u1, nI_2a]
    by_cases q : x.1 - e.2.1 ≤ 2 * c
    · rw [if_neg (nI_nlt q (by omega)), if_pos q]
      dsimp only [lt_]
      rw [ih (i + 1) n x (by omega) (by omega) hx1 u8 u3]
      congr 2
      omega
    · rw [if_pos (nI_lt (by omega) (by omega)), if_neg q]
      rfl
theorem m_patch2 (hy : MdAt Y om) (hDl : D.length ≤ 25) {c : Nat} (hc : c ≤ 3) (hx24 : xs.length ≤ 24) (hy24 : ys.length ≤ 24) : ∀ (k i n : Nat) (M : JM) (hs : List HK) (pa pb : Nat), D.length ≤ i + k → i ≤ D.length → k < n → M om 35 = nI D.length → M om 27 = nI xs.length → TBm M (om + 19) 4 (D.map d_row) → M om 53 = nI hs.length → TBm M (om + 29) 6 (hs.map h_row) → hs.length ≤ i → DC xs.length ys.length pa pb (D.drop i) → (∀ d, D[i]? = some d → min c d.1 ≤ d.2.2.1) →
      ∃ M', lp_X10_makePatch_2 Y om (nI c) n (nI i) M = some M' ∧ MF om [29] [53] M M' ∧ M' om 53 = nI (hs ++ q_hunks xs.length c (D.drop i)).length ∧ TBm M' (om + 29) 6 ((hs ++ q_hunks xs.length c (D.drop i)).map h_row) := by
  have e34 : j_rf Y om 34 = om + 19 := (hy (34, 19, 120) (by decide)).1
  have l34 : j_ln Y (om + 19) = 120 := (hy (34, 19, 120) (by decide)).2
  have e52 : j_rf Y om 52 = om + 29 := (hy (52, 29, 150) (by decide)).1
  have l52 : j_ln Y (om + 29) = 150 := (hy (52, 29, 150) (by decide)).2
  have stop : ∀ (i n : Nat) (M : JM) (hs : List HK), D.length ≤ i → i < 1000 → M om 35 = nI D.length → M om 53 = nI hs.length → TBm M (om + 29) 6 (hs.map h_row) → ∃ M', lp_X10_makePatch_2 Y om (nI c) (n + 1) (nI i) M = some M' ∧ MF om [29] [53] M M' ∧ M' om 53 = nI (hs ++ q_hunks xs.length c (D.drop i)).length ∧ TBm M' (om + 29) 6 ((hs ++ q_hunks xs.length c (D.drop i)).map h_row) := by
    intro i n M hs hi hi9 h35 h53 hH
    refine ⟨M, ?_, MF.refl, ?_⟩
    · unfold lp_X10_makePatch_2
      rw [h35, if_pos (nI_le hi (by omega))]
    · rw [List.drop_eq_nil_of_le hi]
      show M om 53 = nI (hs ++ []).length ∧ TBm M (om + 29) 6 ((hs ++ []).map h_row)
      rw [List.append_nil]
      exact ⟨h53, hH⟩
  intro k
  induction k with
  | zero =>
    intro i n M hs pa pb hk hi hn h35 h27 hT h53 hH hhl hD hmin
    obtain ⟨n, rfl⟩ : ∃ z, n = z + 1 := ⟨n - 1, by omega⟩
    exact stop i n M hs (by omega) (by omega) h35 h53 hH
  | succ k ih =>
    intro i n M hs pa pb hk hi hn h35 h27 hT h53 hH hhl hD hmin
    obtain ⟨n, rfl⟩ : ∃ z, n = z + 1 := ⟨n - 1, by omega⟩
    by_cases hil : i < D.length
    · have e0 := List.drop_eq_getElem_cons hil
      obtain ⟨d, hdd⟩ : ∃ z, z = D[i] := ⟨_, rfl⟩
      rw [← hdd] at e0
      have hd1 : D[i]? = some d := by rw [List.getElem?_eq_getElem hil, ← hdd]
      have hmd := hmin d hd1
      have hD' := hD
      rw [e0] at hD
      obtain ⟨⟨u1, u2, u3⟩, ⟨u4, u5, u6⟩, u7, u8⟩ := hD
      obtain ⟨l, x1, x2, x3⟩ := q_ex_hg (n := xs.length) (c := c) (D.drop (i + 1)) d d
      have hexl := q_ex_le (c := c) (D.drop (i + 1)) d
      have h3 := m_patch3 hy h35 hT hDl hc hx24 hy24 (D.length - (i + 1)) i j_fuel d (by omega) (j_fuel_gt (by omega)) hd1 u8 u3
      obtain ⟨ex, hex⟩ : ∃ z, z = q_ex c d (D.drop (i + 1)) := ⟨_, rfl⟩
      rw [← hex] at x1 x2 x3 h3 hexl
      rw [List.length_drop] at hexl
      rw [← e0, List.getElem?_drop] at x1
      have hgl := DC.get (D.drop i) pa pb ex l hD' (by rw [List.getElem?_drop]; exact x1)
      obtain ⟨⟨v1, v2, v3⟩, ⟨v4, v5, v6⟩, v7⟩ := hgl
      have hmono : d.1 ≤ l.2.1 ∧ d.2.2.1 ≤ l.2.2.2 := by
        cases hex0 : ex with
        | zero =>
          rw [hex0, Nat.add_zero, hd1] at x1
          rw [← Option.some.inj x1]
          omega
        | succ z =>
          have := DC.get (D.drop (i + 1)) d.2.1 d.2.2.2 z l u8 (by rw [List.getElem?_drop, ← x1, hex0]; congr 1; omega)
          omega
      rw [List.drop_drop, show i + (ex + 1) = i + ex + 1 by omega] at v7
      obtain ⟨ld, hld⟩ : ∃ z, z = min c d.1 := ⟨_, rfl⟩
      obtain ⟨tr, htr⟩ : ∃ z, z = min c (xs.length - l.2.1) := ⟨_, rfl⟩
      have pa0 : M (om + 19) (4 * i) = nI d.1 := m_dat hT hd1 (show 0 < 4 by decide)
      have pa2 : M (om + 19) (4 * i + 2) = nI d.2.2.1 := m_dat hT hd1 (show 2 < 4 by decide)
      have pl1 : M (om + 19) (4 * (i + ex) + 1) = nI l.2.1 := m_dat hT x1 (show 1 < 4 by decide)
      have pl3 : M (om + 19) (4 * (i + ex) + 3) = nI l.2.2.2 := m_dat hT x1 (show 3 < 4 by decide)
      obtain ⟨q, hq⟩ : ∃ z, z = 6 * hs.length := ⟨_, rfl⟩
      have hhl25 : hs.length ≤ 24 := by omega
      have gA : j_g (nI (4 * i)) 120 := j_g_nI (by omega) (by omega)
      have gA2 : j_g (nI (4 * i + 2)) 120 := j_g_nI (by omega) (by omega)
      have gL1 : j_g (nI (4 * (i + ex) + 1)) 120 := j_g_nI (by omega) (by omega)
      have gL3 : j_g (nI (4 * (i + ex) + 3)) 120 := j_g_nI (by omega) (by omega)
      have g0 : j_g (nI q) 150 := j_g_nI (by omega) (by omega)
      have g1 : j_g (nI (q + 1)) 150 := j_g_nI (by omega) (by omega)
      have g2 : j_g (nI (q + 2)) 150 := j_g_nI (by omega) (by omega)
      have g3 : j_g (nI (q + 3)) 150 := j_g_nI (by omega) (by omega)
      have g4 : j_g (nI (q + 4)) 150 := j_g_nI (by omega) (by omega)
      have g5 : j_g (nI (q + 5)) 150 := j_g_nI (by omega) (by omega)
      have key : ∀ (N : JM) (k j : Nat) (v : Int32), j_up N (om + 29) k v (om + 19) j = N (om + 19) j := fun N k j v => congrFun (j_up_o (by omega)) j
      have keyo : ∀ (N : JM) (k j : Nat) (v : Int32), j_up N (om + 29) k v om j = N om j := fun N k j v => congrFun (j_up_o (by omega)) j
      have w1 : s_X10_least Y M (nI c) (nI d.1) = nI ld := by rw [p_least (by omega) (by omega), hld]
      have w2 : s_X10_least Y M (nI c) (nI (xs.length - l.2.1)) = nI tr := by rw [p_least (by omega) (by omega), htr]
      obtain ⟨M6, hM6⟩ : ∃ z, z = j_up (j_up (j_up (j_up (j_up (j_up M (om + 29) q (nI (d.1 - ld))) (om + 29) (q + 1) (nI (l.2.1 + tr - (d.1 - ld)))) (om + 29) (q + 2) (nI (d.2.2.1 - ld))) (om + 29) (q + 3) (nI (l.2.2.2 + tr - (d.2.2.1 - ld)))) (om + 29) (q + 4) (nI ld)) (om + 29) (q + 5) (nI tr) := ⟨_, rfl⟩
      have F6 : MF om [29] [] M M6 := by
        rw [hM6]
        exact ((((MF.ua.trans MF.ua).trans MF.ua).trans MF.ua).trans MF.ua).trans MF.ua
      have f7 : MF om [] [53] M6 (j_up M6 om 53 (nI (hs.length + 1))) := MF.uf
      have F7 : MF om [29] [53] M (j_up M6 om 53 (nI (hs.length + 1))) := (F6.mono (by simp) (by simp)).trans (f7.mono (by simp) (by simp))
      have hkrow : h_row (q_hk xs.length c d l) = [nI (d.1 - ld), nI (l.2.1 + tr - (d.1 - ld)), nI (d.2.2.1 - ld), nI (l.2.2.2 + tr - (d.2.2.1 - ld)), nI ld, nI tr] := by
        unfold q_hk h_row
        rw [← hld, ← htr]
        dsimp only
        rw [show ld + l.2.1 - d.1 + tr = l.2.1 + tr - (d.1 - ld) by omega, show ld + l.2.2.2 - d.2.2.1 + tr = l.2.2.2 + tr - (d.2.2.1 - ld) by omega]
      have T6 : TBm M6 (om + 29) 6 ((hs ++ [q_hk xs.length c d l]).map h_row) := by
        rw [List.map_append, show [q_hk xs.length c d l].map h_row = [h_row (q_hk xs.length c d l)] from rfl, hkrow]
        have hlm : (hs.map h_row).length = hs.length := List.length_map _
        intro i' hi' j' hj'
        by_cases e : i' < hs.length
        · rw [t_at_app (by rw [hlm]; exact e), hM6, j_up_k (by omega), j_up_k (by omega), j_up_k (by omega), j_up_k (by omega), j_up_k (by omega), j_up_k (by omega)]
          exact hH i' (by rw [hlm]; exact e) j' hj'
        · have e2 : i' = hs.length := by
            rw [List.length_append, hlm] at hi'
            simp at hi'
            omega
          have e3 : t_at (hs.map h_row ++ [[nI (d.1 - ld), nI (l.2.1 + tr - (d.1 - ld)), nI (d.2.2.1 - ld), nI (l.2.2.2 + tr - (d.2.2.1 - ld)), nI ld, nI tr]]) (hs.map h_row).length j' = (([nI (d.1 - ld), nI (l.2.1 + tr - (d.1 - ld)), nI (d.2.2.1 - ld), nI (l.2.2.2 + tr - (d.2.2.1 - ld)), nI ld, nI tr] : List Int32)[j']?).getD (-1) := t_at_last
          rw [hlm] at e3
          have e4 : 6 * i' + j' = q + j' := by omega
          rw [e2] at e4 ⊢
          rw [e3, e4]
          rcases (show j' = 0 ∨ j' = 1 ∨ j' = 2 ∨ j' = 3 ∨ j' = 4 ∨ j' = 5 by omega) with e | e | e | e | e | e
          · subst e
            rw [hM6, j_up_k (by omega), j_up_k (by omega), j_up_k (by omega), j_up_k (by omega), j_up_k (by omega)]
            show _ = j_up M (om + 29) q (nI (d.1 - ld)) (om + 29) q
            rw [j_up_s]
            rfl
          · subst e
            rw [hM6, j_up_k (by omega), j_up_k (by omega), j_up_k (by omega), j_up_k (by omega), j_up_s]
            rfl
          · subst e
            rw [hM6, j_up_k (by omega), j_up_k (by omega), j_up_k (by omega), j_up_s]
            rfl
          · subst e
            rw [hM6, j_up_k (by omega), j_up_k (by omega), j_up_s]
            rfl
          · subst e
            rw [hM6, j_up_k (by omega), j_up_s]
            rfl
          · subst e
            rw [hM6, j_up_s]
            rfl
      have hnext : ∀ d', D[i + ex + 1]? = some d' → min c d'.1 ≤ d'.2.2.1 := by
        intro d' hd'
        have h5 := x3 d' (by rw [List.getElem?_drop, ← hd']; congr 1; omega)
        have hlt : i + ex + 1 < D.length := by
          apply Classical.byContradiction
          intro q
          rw [List.getElem?_eq_none (by omega)] at hd'
          exact absurd hd' (by simp)
        have e8 := List.drop_eq_getElem_cons hlt
        have e9 : D[i + ex + 1] = d' := by
          rw [List.getElem?_eq_getElem hlt] at hd'
          exact Option.some.inj hd'
        rw [e9] at e8
        rw [e8] at v7
        have := v7.2.2.1
        have := v7.2.1.1
        omega
      have hii : i + ex + 1 ≤ D.length := by omega
      obtain ⟨M', b1, b2, b3⟩ := ih (i + ex + 1) n (j_up M6 om 53 (nI (hs.length + 1))) (hs ++ [q_hk xs.length c d l]) l.2.1 l.2.2.2 (by omega) hii (by omega)
        (by rw [F7.fld (by decide) (by decide)]; exact h35) (by rw [F7.fld (by decide) (by decide)]; exact h27) (hT.eq (F7.arr (t := 19) (by decide) (by decide)))
        (by rw [j_up_s, List.length_append]; rfl) (T6.eq (f7.arr (t := 29) (by decide) (by decide))) (by rw [List.length_append, List.length_singleton]; omega) v7 hnext
      refine ⟨M', ?_, F7.trans b2, ?_⟩
      · unfold lp_X10_makePatch_2
        rw [h35, if_neg (nI_ge (by omega) (by omega)), h3]
        dsimp only [Option.bind, lt_]
        rw [e34, l34, e52, l52, h27, h53, nI_4a, nI_4a, nI_6a, ← hq]
        rw [show nI (4 * i) + (2 : Int32) = nI (4 * i + 2) from nI_add _ 2, show nI (4 * (i + ex)) + (1 : Int32) = nI (4 * (i + ex) + 1) from nI_add _ 1, show nI (4 * (i + ex)) + (3 : Int32) = nI (4 * (i + ex) + 3) from nI_add _ 3,
          show nI q + (1 : Int32) = nI (q + 1) from nI_add _ 1, show nI q + (2 : Int32) = nI (q + 2) from nI_add _ 2, show nI q + (3 : Int32) = nI (q + 3) from nI_add _ 3, show nI q + (4 : Int32) = nI (q + 4) from nI_add _ 4, show nI q + (5 : Int32) = nI (q + 5) from nI_add _ 5]
        simp only [if_pos gA, if_pos gA2, if_pos gL1, if_pos gL3, if_pos g0, if_pos g1, if_pos g2, if_pos g3, if_pos g4, if_pos g5, nI_clamp (show 4 * i < 2 ^ 31 by omega), nI_clamp (show 4 * i + 2 < 2 ^ 31 by omega), nI_clamp (show 4 * (i + ex) + 1 < 2 ^ 31 by omega), nI_clamp (show 4 * (i + ex) + 3 < 2 ^ 31 by omega), nI_clamp (show q < 2 ^ 31 by omega), nI_clamp (show q + 1 < 2 ^ 31 by omega), nI_clamp (show q + 2 < 2 ^ 31 by omega), nI_clamp (show q + 3 < 2 ^ 31 by omega), nI_clamp (show q + 4 < 2 ^ 31 by omega), nI_clamp (show q + 5 < 2 ^ 31 by omega), key, keyo, pa0, pa2, pl1, pl3, w1, nI_sb v3, w2, j_up_s, nI_add, nI_sb (show ld ≤ d.1 by omega), nI_sb (show ld ≤ d.2.2.1 by omega), nI_sb (show d.1 - ld ≤ l.2.1 + tr by omega), nI_sb (show d.2.2.1 - ld ≤ l.2.2.2 + tr by omega), h53, nI_1]
        rw [← hM6]
        exact b1
      · rw [e0]
        show M' om 53 = nI (hs ++ q_hg xs.length c d d (D.drop (i + 1))).length ∧ TBm M' (om + 29) 6 ((hs ++ q_hg xs.length c d d (D.drop (i + 1))).map h_row)
        rw [x2, List.drop_drop, show i + 1 + ex = i + ex + 1 by omega]
        rw [List.append_assoc] at b3
        exact b3
    · exact stop i n M hs (by omega) (by omega) h35 h53 hH
end PMM

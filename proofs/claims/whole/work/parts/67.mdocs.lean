/-! ===== pure: documents and history in the model ===== -/
def HM (M : JM) (om : Nat) (hs : List (Nat × List Int32)) : Prop := M om 10 = nI hs.length ∧ hs.length ≤ 8 ∧ ∀ k r xs, hs[k]? = some (r, xs) → r < 4 ∧ xs.length ≤ 24 ∧ M (om + 4) (hs.length - 1 - k) = nI r ∧ M (om + 5) (hs.length - 1 - k) = nI xs.length ∧ ∀ i, i < xs.length → xs[i]? = some (M (om + 6) (24 * (hs.length - 1 - k) + i))
theorem HM.fr {M M' : JM} {om : Nat} {A F : List Nat} {hs : List (Nat × List Int32)} (h : HM M om hs) (hf : MF om A F M M') (h0 : 0 ∉ A) (hA : ∀ t ∈ [4, 5, 6], t ∉ A) (hF : 10 ∉ F) : HM M' om hs := by
  obtain ⟨a1, a2, a3⟩ := h
  have g : ∀ t, t ∈ [4, 5, 6] → M' (om + t) = M (om + t) := fun t ht => hf.arr (hA t ht) (by rintro rfl; simp at ht)
  refine ⟨by rw [hf.fld hF h0]; exact a1, a2, fun k r xs hk => ?_⟩
  rw [g 4 (by decide), g 5 (by decide), g 6 (by decide)]
  exact a3 k r xs hk
section DOC
variable {Y : JY} {M : JM} {om : Nat} {ds : Nat → List Int32} {hs : List (Nat × List Int32)}
theorem m_rem1 (hy : MdAt Y om) {M0 : JM} : ∀ (d i n : Nat) (M : JM), 7 = i + d → d < n → (∀ t, t < i → M (om + 4) t = M0 (om + 4) (t + 1) ∧ M (om + 5) t = M0 (om + 5) (t + 1)) → (∀ t, i ≤ t → M (om + 4) t = M0 (om + 4) t ∧ M (om + 5) t = M0 (om + 5) t) →
      ∃ M', lp_X10_remembers_1 Y om n (nI i) M = some M' ∧ MF om [4, 5] [] M M' ∧ ∀ t, t < 7 → M' (om + 4) t = M0 (om + 4) (t + 1) ∧ M' (om + 5) t = M0 (om + 5) (t + 1) := by
  have e7 : j_rf Y om 7 = om + 4 := (hy (7, 4, 8) (by decide)).1
  have l7 : j_ln Y (om + 4) = 8 := (hy (7, 4, 8) (by decide)).2
  have e8 : j_rf Y om 8 = om + 5 := (hy (8, 5, 8) (by decide)).1
  have l8 : j_ln Y (om + 5) = 8 := (hy (8, 5, 8) (by decide)).2
  intro d
  induction d with
  | zero =>
    intro i n M hi hn h1 h2
    obtain ⟨n, rfl⟩ : ∃ z, n = z + 1 := ⟨n - 1, by omega⟩
    refine ⟨M, ?_, MF.refl, fun t ht => h1 t (by omega)⟩
    unfold lp_X10_remembers_1
    rw [if_pos (by rw [show (7 : Int32) = nI 7 from rfl]; exact nI_le (by omega) (by omega))]
  | succ d ih =>
    intro i n M hi hn h1 h2
    obtain ⟨n, rfl⟩ : ∃ z, n = z + 1 := ⟨n - 1, by omega⟩
    have f1 : MF om [4] [] M (j_up M (om + 4) i (M (om + 4) (i + 1))) := MF.ua
    have f2 : MF om [5] [] (j_up M (om + 4) i (M (om + 4) (i + 1))) (j_up (j_up M (om + 4) i (M (om + 4) (i + 1))) (om + 5) i (M (om + 5) (i + 1))) := MF.ua
    obtain ⟨M', a1, a2, a3⟩ := ih (i + 1) n (j_up (j_up M (om + 4) i (M (om + 4) (i + 1))) (om + 5) i (M (om + 5) (i + 1))) (by omega) (by omega) (fun t ht => by
        rw [f2.arr (t := 4) (by decide) (by decide)]
        by_cases e : t = i
        · rw [e, j_up_s, j_up_s]
          exact h2 (i + 1) (by omega)
        · rw [j_up_k e, j_up_k e, f1.arr (t := 5) (by decide) (by decide)]
          exact h1 t (by omega)) (fun t ht => by
        rw [f2.arr (t := 4) (by decide) (by decide), j_up_k (by omega), j_up_k (by omega), f1.arr (t := 5) (by decide) (by decide)]
        exact h2 t (by omega))
    refine ⟨M', ?_, ((f1.mono (by simp) (by simp)).trans (f2.mono (by simp) (by simp))).trans a2, a3⟩
    have e24 : ¬ (7 : Int32) ≤ nI i := by rw [show (7 : Int32) = nI 7 from rfl]; exact nI_ge (by omega) (by omega)
    have g1 : j_g (nI i) 8 := j_g_nI (by omega) (by omega)
    have g2 : j_g (nI (i + 1)) 8 := j_g_nI (by omega) (by omega)
    unfold lp_X10_remembers_1
    rw [if_neg e24, e7, e8, l7, l8, nI_1]
    dsimp only [lt_]
    simp only [if_pos g1, if_pos g2, nI_clamp (show i < 2 ^ 31 by omega), nI_clamp (show i + 1 < 2 ^ 31 by omega)]
    rw [f1.arr (t := 5) (by decide) (by decide)]
    exact a1
theorem m_rem2 (hy : MdAt Y om) {M0 : JM} : ∀ (d i n : Nat) (M : JM), 168 = i + d → d < n → (∀ t, t < i → M (om + 6) t = M0 (om + 6) (t + 24)) → (∀ t, i ≤ t → M (om + 6) t = M0 (om + 6) t) →
      ∃ M', lp_X10_remembers_2 Y om n (nI i) M = some M' ∧ MF om [6] [] M M' ∧ ∀ t, t < 168 → M' (om + 6) t = M0 (om + 6) (t + 24) := by
  have e9 : j_rf Y om 9 = om + 6 := (hy (9, 6, 192) (by decide)).1
  have l9 : j_ln Y (om + 6) = 192 := (hy (9, 6, 192) (by decide)).2
  intro d
  induction d with
  | zero =>
    intro i n M hi hn h1 h2
    obtain ⟨n, rfl⟩ : ∃ z, n = z + 1 := ⟨n - 1, by omega⟩
    refine ⟨M, ?_, MF.refl, fun t ht => h1 t (by omega)⟩
    unfold lp_X10_remembers_2
    rw [if_pos (by rw [show (168 : Int32) = nI 168 from rfl]; exact nI_le (by omega) (by omega))]
  | succ d ih =>
    intro i n M hi hn h1 h2
    obtain ⟨n, rfl⟩ : ∃ z, n = z + 1 := ⟨n - 1, by omega⟩
    have f1 : MF om [6] [] M (j_up M (om + 6) i (M (om + 6) (i + 24))) := MF.ua
    obtain ⟨M', a1, a2, a3⟩ := ih (i + 1) n (j_up M (om + 6) i (M (om + 6) (i + 24))) (by omega) (by omega) (fun t ht => by
        by_cases e : t = i
        · rw [e, j_up_s]
          exact h2 (i + 24) (by omega)
        · rw [j_up_k e]
          exact h1 t (by omega)) (fun t ht => by
        rw [j_up_k (by omega)]
        exact h2 t (by omega))
    refine ⟨M', ?_, f1.trans a2, a3⟩
    have e24 : ¬ (168 : Int32) ≤ nI i := by rw [show (168 : Int32) = nI 168 from rfl]; exact nI_ge (by omega) (by omega)
    have g1 : j_g (nI i) 192 := j_g_nI (by omega) (by omega)
    have g2 : j_g (nI (i + 24)) 192 := j_g_nI (by omega) (by omega)
    unfold lp_X10_remembers_2
    rw [if_neg e24, e9, l9, show nI i + (24 : Int32) = nI (i + 24) from nI_add _ 24, if_pos g1, if_pos g2, nI_clamp (by omega), nI_clamp (by omega), nI_1]
    exact a1
theorem m_rem3 (hy : MdAt Y om) {r kp : Nat} (hr : r < 4) (hkp : kp < 8) : ∀ (d i n : Nat) (M : JM), 24 = i + d → d < n → M om 10 = nI kp → (∀ t, t < i → M (om + 6) (24 * kp + t) = M (om + 1) (24 * r + t)) →
      ∃ M', lp_X10_remembers_3 Y (nI r) om n (nI i) M = some M' ∧ MF om [6] [] M M' ∧ (∀ t, t < 24 → M' (om + 6) (24 * kp + t) = M (om + 1) (24 * r + t)) ∧ ∀ t, t < 24 * kp → M' (om + 6) t = M (om + 6) t := by
  have e9 : j_rf Y om 9 = om + 6 := (hy (9, 6, 192) (by decide)).1
  have l9 : j_ln Y (om + 6) = 192 := (hy (9, 6, 192) (by decide)).2
  have e1 : j_rf Y om 1 = om + 1 := (hy (1, 1, 96) (by decide)).1
  have l1 : j_ln Y (om + 1) = 96 := (hy (1, 1, 96) (by decide)).2
  intro d
  induction d with
  | zero =>
    intro i n M hi hn h10 h1
    obtain ⟨n, rfl⟩ : ∃ z, n = z + 1 := ⟨n - 1, by omega⟩
    refine ⟨M, ?_, MF.refl, fun t ht => h1 t (by omega), fun t _ => rfl⟩
    unfold lp_X10_remembers_3
    rw [if_pos (by rw [show (24 : Int32) = nI 24 from rfl]; exact nI_le (by omega) (by omega))]
  | succ d ih =>
    intro i n M hi hn h10 h1
    obtain ⟨n, rfl⟩ : ∃ z, n = z + 1 := ⟨n - 1, by omega⟩
    have f1 : MF om [6] [] M (j_up M (om + 6) (24 * kp + i) (M (om + 1) (24 * r + i))) := MF.ua
    obtain ⟨M', a1, a2, a3, a4⟩ := ih (i + 1) n (j_up M (om + 6) (24 * kp + i) (M (om + 1) (24 * r + i))) (by omega) (by omega) (by rw [f1.fld (by decide) (by decide)]; exact h10) (fun t ht => by
        rw [f1.arr (t := 1) (by decide) (by decide)]
        by_cases e : t = i
        · rw [e, j_up_s]
        · rw [j_up_k (by omega)]
          exact h1 t (by omega))
    refine ⟨M', ?_, f1.trans a2, fun t ht => ?_, fun t ht => ?_⟩
    · have e24 : ¬ (24 : Int32) ≤ nI i := by rw [show (24 : Int32) = nI 24 from rfl]; exact nI_ge (by omega) (by omega)
      have g1 : j_g (nI (24 * r + i)) 96 := j_g_nI (by omega) (by omega)
      have g2 : j_g (nI (24 * kp + i)) 192 := j_g_nI (by omega) (by omega)
      unfold lp_X10_remembers_3
      rw [if_neg e24, h10, nI_24, nI_24, e9, l9, e1, l1, if_pos g1, if_pos g2, nI_clamp (by omega), nI_clamp (by omega), nI_1]
      exact a1
    · rw [a3 t ht, f1.arr (t := 1) (by decide) (by decide)]
    · rw [a4 t ht, j_up_k (by omega)]
theorem m_remembers (hy : MdAt Y om) (hH : HM M om hs) {r : Nat} (hr : r < 4) {xs : List Int32} (hD : DR M om r xs) :
    ∃ M', s_X10_remembers Y M om (nI r) = some M' ∧ MF om [4, 5, 6] [10] M M' ∧ HM M' om (((r, xs) :: hs).take 8) := by
  have e7 : j_rf Y om 7 = om + 4 := (hy (7, 4, 8) (by decide)).1
  have l7 : j_ln Y (om + 4) = 8 := (hy (7, 4, 8) (by decide)).2
  have e8 : j_rf Y om 8 = om + 5 := (hy (8, 5, 8) (by decide)).1
  have l8 : j_ln Y (om + 5) = 8 := (hy (8, 5, 8) (by decide)).2
  have e2 : j_rf Y om 2 = om + 2 := (hy (2, 2, 4) (by decide)).1
  have l2 : j_ln Y (om + 2) = 4 := (hy (2, 2, 4) (by decide)).2
  have hH' := hH
  obtain ⟨h1, h2, h3⟩ := hH
  have first : ∃ M1, (if (M om 10) = (8 : Int32) then ((lp_X10_remembers_1 Y om j_fuel (0 : Int32) M).bind fun xx29 => (lp_X10_remembers_2 Y om j_fuel (0 : Int32) xx29).bind fun xx28 => lt_ (j_up xx28 om 10 ((xx28 om 10) - (1 : Int32))) fun mm27 => some mm27) else (some M)) = some M1 ∧ MF om [4, 5, 6] [10] M M1 ∧ HM M1 om (hs.take 7) := by
    by_cases q : hs.length = 8
    · rw [if_pos (by rw [h1, q]; rfl)]
      obtain ⟨M1, a1, a2, a3⟩ := m_rem1 hy (M0 := M) 7 0 j_fuel M (by omega) (by unfold j_fuel; omega) (fun t ht => absurd ht (Nat.not_lt_zero _)) (fun t _ => ⟨rfl, rfl⟩)
      obtain ⟨M2, b1, b2, b3⟩ := m_rem2 hy (M0 := M) 168 0 j_fuel M1 (by omega) (by unfold j_fuel; omega) (fun t ht => absurd ht (Nat.not_lt_zero _)) (fun t _ => by rw [a2.arr (t := 6) (by decide) (by decide)])
      rw [nI_0] at a1 b1
      have F2 : MF om [4, 5, 6] [] M M2 := (a2.mono (by simp) (by simp)).trans (b2.mono (by simp) (by simp))
      have f3 : MF om [] [10] M2 (j_up M2 om 10 (nI 7)) := MF.uf
      refine ⟨j_up M2 om 10 (nI 7), ?_, (F2.mono (by simp) (by simp)).trans (f3.mono (by simp) (by simp)), ?_, ?_, ?_⟩
      · rw [a1]
        dsimp only [Option.bind]
        rw [b1]
        dsimp only [lt_]
        rw [F2.fld (by decide) (by decide), h1, q]
        rfl
      · rw [j_up_s, List.length_take, q]
        rfl
      · rw [List.length_take]
        omega
      · intro k r' xs' hk
        have hk7 : k < 7 := by
          apply Classical.byContradiction
          intro c
          rw [List.getElem?_eq_none (by rw [List.length_take]; omega)] at hk
          exact absurd hk (by simp)
        rw [List.getElem?_take_of_lt hk7] at hk
        obtain ⟨c1, c2, c3, c4, c5⟩ := h3 k r' xs' hk
        have hl7 : (hs.take 7).length = 7 := by rw [List.length_take]; omega
        rw [hl7, f3.arr (t := 4) (by decide) (by decide), f3.arr (t := 5) (by decide) (by decide), f3.arr (t := 6) (by decide) (by decide), b2.arr (t := 4) (by decide) (by decide), b2.arr (t := 5) (by decide) (by decide), (a3 (7 - 1 - k) (by omega)).1, (a3 (7 - 1 - k) (by omega)).2]
        rw [show hs.length - 1 - k = 7 - 1 - k + 1 by omega] at c3 c4 c5
        refine ⟨c1, c2, c3, c4, fun i hi => ?_⟩
        rw [b3 (24 * (7 - 1 - k) + i) (by omega), c5 i hi]
        congr 2
        omega
    · have e88 : ¬ M om 10 = (8 : Int32) := fun c => q ((nI_eq (b := 8) (by omega) (by omega)).mp (h1.symm.trans c))
      rw [if_neg e88, List.take_of_length_le (by omega)]
      exact ⟨M, rfl, MF.refl, hH'⟩
  obtain ⟨M1, a1, a2, a3⟩ := first
  obtain ⟨g1, g2, g3⟩ := a3
  obtain ⟨gs, hgs⟩ : ∃ z, z = hs.take 7 := ⟨_, rfl⟩
  have hgl : gs.length ≤ 7 := by rw [hgs, List.length_take]; omega
  rw [← hgs] at g1 g2 g3
  have hD1 : DR M1 om r xs := hD.eq (a2.arr (t := 1) (by decide) (by decide)) (a2.arr (t := 2) (by decide) (by decide))
  have f2 : MF om [4] [] M1 (j_up M1 (om + 4) gs.length (nI r)) := MF.ua
  have f3 : MF om [5] [] (j_up M1 (om + 4) gs.length (nI r)) (j_up (j_up M1 (om + 4) gs.length (nI r)) (om + 5) gs.length (nI xs.length)) := MF.ua
  have F3 : MF om [4, 5] [] M1 (j_up (j_up M1 (om + 4) gs.length (nI r)) (om + 5) gs.length (nI xs.length)) := (f2.mono (by simp) (by simp)).trans (f3.mono (by simp) (by simp))
  obtain ⟨M4, b1, b2, b3, b4⟩ := m_rem3 hy hr (kp := gs.length) (by omega) 24 0 j_fuel (j_up (j_up M1 (om + 4) gs.length (nI r)) (om + 5) gs.length (nI xs.length)) (by omega) (by unfold j_fuel; omega) (by rw [F3.fld (by decide) (by decide)]; exact g1) (fun t ht => absurd ht (Nat.not_lt_zero _))
  have f5 : MF om [] [10] M4 (j_up M4 om 10 (nI (gs.length + 1))) := MF.uf
  have F5 : MF om [4, 5, 6] [10] M1 (j_up M4 om 10 (nI (gs.length + 1))) := ((F3.mono (by simp) (by simp)).trans (b2.mono (by simp) (by simp))).trans (f5.mono (by simp) (by simp))
  have htk : ((r, xs) :: hs).take 8 = (r, xs) :: gs := by rw [hgs]; rfl
  refine ⟨j_up M4 om 10 (nI (gs.length + 1)), ?_, a2.trans F5, ?_, ?_, ?_⟩
  · unfold s_X10_remembers
    rw [a1]
    dsimp only [Option.bind, lt_]
    rw [g1, e7, l7, e8, l8, e2, l2, if_pos (j_g_nI (by omega) (by omega)), if_pos (j_g_nI hr (by omega)), nI_clamp (by omega), nI_clamp (by omega), f2.fld (k := 10) (by decide) (by decide), g1, if_pos (j_g_nI (by omega) (by omega)), nI_clamp (by omega), f2.arr (t := 2) (by decide) (by decide), hD1.1]
    rw [nI_0] at b1
    rw [b1]
    dsimp only
    rw [b2.fld (by decide) (by decide), F3.fld (by decide) (by decide), g1, nI_1]
  · rw [j_up_s, htk]
    rfl
  · rw [htk, List.length_cons]
    omega
  · rw [htk]
    intro k r' xs' hk
    rw [f5.arr (t := 4) (by decide) (by decide), f5.arr (t := 5) (by decide) (by decide), f5.arr (t := 6) (by decide) (by decide), b2.arr (t := 4) (by decide) (by decide), b2.arr (t := 5) (by decide) (by decide), f3.arr (t := 4) (by decide) (by decide), List.length_cons]
    cases k with
    | zero =>
      have e : (r, xs) = (r', xs') := by simpa using hk
      have e1 := congrArg Prod.fst e
      have e2 := congrArg Prod.snd e
      dsimp only at e1 e2
      subst e1
      subst e2
      rw [show gs.length + 1 - 1 - 0 = gs.length by omega, j_up_s, j_up_s]
      refine ⟨hr, hD.2.1, rfl, rfl, fun i hi => ?_⟩
      have := hD.2.1
      rw [b3 i (by omega), F3.arr (t := 1) (by decide) (by decide)]
      exact hD1.2.2 i hi
    | succ k =>
      have hk2 : gs[k]? = some (r', xs') := by simpa using hk
      have hkl : k < gs.length := by
        apply Classical.byContradiction
        intro c
        rw [List.getElem?_eq_none (by omega)] at hk2
        exact absurd hk2 (by simp)
      obtain ⟨c1, c2, c3, c4, c5⟩ := g3 k r' xs' hk2
      rw [show gs.length + 1 - 1 - (k + 1) = gs.length - 1 - k by omega, j_up_k (by omega), j_up_k (by omega), f2.arr (t := 5) (by decide) (by decide)]
      refine ⟨c1, c2, c3, c4, fun i hi => ?_⟩
      rw [b4 _ (by omega), F3.arr (t := 6) (by decide) (by decide)]
      exact c5 i hi
theorem DM.dr (h : DM M om ds) {r : Nat} (hr : r < 4) : DR M om r (ds r) := h r hr
theorem DM.set {M' : JM} (h : DM M om ds) {r : Nat} {xs : List Int32} (h1 : DR M' om r xs) (h2 : ∀ r', r' < 4 → r' ≠ r → M' (om + 2) r' = M (om + 2) r' ∧ ∀ i, i < 24 → M' (om + 1) (24 * r' + i) = M (om + 1) (24 * r' + i)) : DM M' om (f_up ds r xs) := by
  intro r' hr'
  by_cases e : r' = r
  · rw [e, f_up_s]
    exact h1
  · rw [f_up_n e]
    obtain ⟨a1, a2, a3⟩ := h r' hr'
    obtain ⟨b1, b2⟩ := h2 r' hr' e
    refine ⟨by rw [b1]; exact a1, a2, fun i hi => ?_⟩
    rw [b2 i (by omega)]
    exact a3 i hi
theorem m_holds_loop (hy : MdAt Y om) {r : Nat} (hr : r < 4) {tq cap : Nat} (htq : tq ≠ 1 ∧ tq ≠ 0) (hlq : j_ln Y (om + tq) = cap) (hcap : cap < 2500) {xs : List Int32} (hxl : xs.length ≤ cap) (hx24 : xs.length ≤ 24) :
    ∀ (d i n : Nat) (M : JM), xs.length = i + d → d < n → RA M (om + tq) xs → (∀ t, t < i → xs[t]? = some (M (om + 1) (24 * r + t))) →
      ∃ M', lp_X10_holds_1 Y (nI xs.length) (om + tq) (nI r) om n (nI i) M = some M' ∧ MF om [1] [] M M' ∧ (∀ t, t < xs.length → xs[t]? = some (M' (om + 1) (24 * r + t))) ∧ ∀ t, (t < 24 * r ∨ 24 * r + 24 ≤ t) → M' (om + 1) t = M (om + 1) t := by
  have e1 : j_rf Y om 1 = om + 1 := (hy (1, 1, 96) (by decide)).1
  have l1 : j_ln Y (om + 1) = 96 := (hy (1, 1, 96) (by decide)).2
  intro d
  induction d with
  | zero =>
    intro i n M hi hn hq h
    obtain ⟨n, rfl⟩ : ∃ z, n = z + 1 := ⟨n - 1, by omega⟩
    refine ⟨M, ?_, MF.refl, fun t ht => h t (by omega), fun t _ => rfl⟩
    unfold lp_X10_holds_1
    rw [if_pos (nI_le (by omega) (by omega))]
  | succ d ih =>
    intro i n M hi hn hq h
    obtain ⟨n, rfl⟩ : ∃ z, n = z + 1 := ⟨n - 1, by omega⟩
    have hix : i < xs.length := by omega
    have f1 : MF om [1] [] M (j_up M (om + 1) (24 * r + i) (M (om + tq) i)) := MF.ua
    obtain ⟨M', a1, a2, a3, a4⟩ := ih (i + 1) n (j_up M (om + 1) (24 * r + i) (M (om + tq) i)) (by omega) (by omega) (hq.eq (f1.arr (by simp; omega) htq.2)) (fun t ht => by
      by_cases e : t = i
      · rw [e, j_up_s]
        exact hq i hix
      · rw [j_up_k (by omega)]
        exact h t (by omega))
    refine ⟨M', ?_, f1.trans a2, a3, fun t ht => by rw [a4 t ht, j_up_k (by omega)]⟩
    unfold lp_X10_holds_1
    rw [if_neg (nI_ge (by omega) (by omega)), hlq, if_pos (j_g_nI (by omega) (by omega)), nI_24, e1, l1, if_pos (j_g_nI (by omega) (by omega)), nI_clamp (by omega), nI_clamp (by omega), nI_1]
    exact a1
theorem m_holds (hy : MdAt Y om) {r : Nat} (hr : r < 4) {tq cap : Nat} (htq : tq ≠ 1 ∧ tq ≠ 0 ∧ tq ≠ 2) (hlq : j_ln Y (om + tq) = cap) (hcap : cap < 2500) {xs : List Int32} (hxl : xs.length ≤ cap) (hx24 : xs.length ≤ 24) (hq : RA M (om + tq) xs) (hD : DM M om ds) :
      ∃ M', s_X10_holds Y M om (nI r) (om + tq) (nI xs.length) = some M' ∧ MF om [1, 2] [] M M' ∧ DM M' om (f_up ds r xs) := by
  have e2 : j_rf Y om 2 = om + 2 := (hy (2, 2, 4) (by decide)).1
  have l2 : j_ln Y (om + 2) = 4 := (hy (2, 2, 4) (by decide)).2
  have f1 : MF om [2] [] M (j_up M (om + 2) r (nI xs.length)) := MF.ua
  obtain ⟨M', a1, a2, a3, a4⟩ := m_holds_loop hy hr ⟨htq.1, htq.2.1⟩ hlq hcap hxl hx24 xs.length 0 j_fuel (j_up M (om + 2) r (nI xs.length)) (by omega) (j_fuel_gt (by omega)) (hq.eq (f1.arr (by simp; omega) htq.2.1)) (fun t ht => absurd ht (Nat.not_lt_zero _))
  refine ⟨M', ?_, (f1.mono (by simp) (by simp)).trans (a2.mono (by simp) (by simp)), hD.set ⟨?_, hx24, a3⟩ (fun r' hr' hne => ⟨?_, fun i hi => ?_⟩)⟩
  · unfold s_X10_holds
    rw [e2, l2, if_pos (j_g_nI hr (by omega)), nI_clamp (by omega)]
    dsimp only [lt_]
    rw [nI_0] at a1
    rw [a1]
    rfl
  · rw [a2.arr (t := 2) (by decide) (by decide), j_up_s]
  · rw [a2.arr (t := 2) (by decide) (by decide), j_up_k hne]
  · rw [a4 _ (by omega), f1.arr (t := 1) (by decide) (by decide)]
end DOC

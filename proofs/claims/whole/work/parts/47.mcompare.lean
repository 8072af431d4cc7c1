/-! ===== pure: the model's comparison as a whole; its steps ===== -/
def CMm (M : JM) (om : Nat) (mk : Bool) (xs ys : List Int32) (P : List (Nat × Nat)) (anc : Nat) (mv : List (List Int32)) : Prop :=
  M om 25 = (if mk then 1 else 0) ∧ M om 33 = nI mv.length ∧ TBm M (om + 18) 3 mv ∧ mv.length ≤ 24 ∧
    (mk = true → xs.length ≤ 24 ∧ ys.length ≤ 24 ∧ (PS P ∧ PB P xs.length ys.length) ∧ M om 27 = nI xs.length ∧ M om 29 = nI ys.length ∧ RA M (om + 15) xs ∧ RA M (om + 16) ys ∧ PT M (om + 17) P ∧ M om 31 = nI anc ∧
      M om 35 = nI (q_diffs (lk P) xs.length ys.length).length ∧ TBm M (om + 19) 4 (q_diffs (lk P) xs.length ys.length))
theorem CMm.fr {M M' : JM} {om : Nat} {A F : List Nat} {mk : Bool} {xs ys : List Int32} {P : List (Nat × Nat)} {anc : Nat} {mv : List (List Int32)} (h : CMm M om mk xs ys P anc mv) (hf : MF om A F M M')
    (h0 : 0 ∉ A) (hA : ∀ t ∈ [15, 16, 17, 18, 19], t ∉ A) (hF : ∀ k ∈ [25, 27, 29, 31, 33, 35], k ∉ F) : CMm M' om mk xs ys P anc mv := by
  obtain ⟨a1, a2, a3, a4, a5⟩ := h
  have g : ∀ t, t ∈ [15, 16, 17, 18, 19] → M' (om + t) = M (om + t) := fun t ht => hf.arr (hA t ht) (by rintro rfl; simp at ht)
  have f : ∀ k, k ∈ [25, 27, 29, 31, 33, 35] → M' om k = M om k := fun k hk => hf.fld (hF k hk) h0
  refine ⟨by rw [f 25 (by decide)]; exact a1, by rw [f 33 (by decide)]; exact a2, a3.eq (g 18 (by decide)), a4, fun e => ?_⟩
  obtain ⟨b1, b2, b3, b4, b5, b6, b7, b8, b9, b10, b11⟩ := a5 e
  exact ⟨b1, b2, b3, by rw [f 27 (by decide)]; exact b4, by rw [f 29 (by decide)]; exact b5, b6.eq (g 15 (by decide)), b7.eq (g 16 (by decide)), b8.eq (g 17 (by decide)), by rw [f 31 (by decide)]; exact b9, by rw [f 35 (by decide)]; exact b10, b11.eq (g 19 (by decide))⟩
theorem m_in {Y : JY} {M : JM} {p lo hi : Int32} : s_X10_in Y M p lo hi = 0 ↔ p < lo ∨ hi < p := by
  unfold s_X10_in
  split
  · rename_i h; simp [h]
  · rename_i h; simp [h]
theorem nI3 : (3 : Int32) = nI 3 := rfl
theorem m_isReg {Y : JY} {M : JM} {p : Int32} : s_X10_isRegister Y M p = 0 ↔ ¬ ∃ r : Nat, r < 4 ∧ p = nI r := by
  unfold s_X10_isRegister
  rw [m_in]
  constructor
  · rintro h ⟨r, hr, rfl⟩
    rcases h with h | h
    · exact nI_pos (by omega) h
    · rw [nI3] at h
      exact nI_nlt (by omega) (by omega) h
  · intro h
    by_cases c : p < 0
    · exact Or.inl c
    · obtain ⟨r, hr, rfl⟩ := nI_of c
      refine Or.inr ?_
      rw [nI3]
      exact nI_lt (Nat.lt_of_not_le (fun q => h ⟨r, by omega, rfl⟩)) hr
theorem m_isRegT {Y : JY} {M : JM} {r : Nat} (h : r < 4) : ¬ s_X10_isRegister Y M (nI r) = 0 := fun c => m_isReg.mp c ⟨r, h, rfl⟩
section MCM
variable {Y : JY} {M : JM} {om : Nat} {xs ys : List Int32} {P : List (Nat × Nat)} {anc : Nat}
theorem m_compare (hy : MdAt Y om) {ds : Nat → List Int32} (hD : DM M om ds) {a b : Nat} (ha : a < 4) (hb : b < 4) {mo : Int32} (hmo : M om 3 = mo) :
    ∃ M', s_X10_compare Y M om (nI a) (nI b) = some (nI (q_align (ds a) (ds b) (decide (mo = 1))).1.length, M') ∧ MF om [10, 11, 12, 15, 16, 17, 19] [0, 22, 25, 27, 29, 31, 33, 35] M M' ∧ M' om 0 = 0 ∧
      CMm M' om true (ds a) (ds b) (q_align (ds a) (ds b) (decide (mo = 1))).1 (q_align (ds a) (ds b) (decide (mo = 1))).2 [] := by
  have e26 : j_rf Y om 26 = om + 15 := (hy (26, 15, 24) (by decide)).1
  have e28 : j_rf Y om 28 = om + 16 := (hy (28, 16, 24) (by decide)).1
  have e30 : j_rf Y om 30 = om + 17 := (hy (30, 17, 24) (by decide)).1
  have l26 : j_ln Y (om + 15) = 24 := (hy (26, 15, 24) (by decide)).2
  have l28 : j_ln Y (om + 16) = 24 := (hy (28, 16, 24) (by decide)).2
  have l30 : j_ln Y (om + 17) = 24 := (hy (30, 17, 24) (by decide)).2
  have hxa := (hD a ha).2.1
  have hxb := (hD b hb).2.1
  obtain ⟨xs, hxs⟩ : ∃ z, z = ds a := ⟨_, rfl⟩
  obtain ⟨ys, hys⟩ : ∃ z, z = ds b := ⟨_, rfl⟩
  obtain ⟨P, hP⟩ : ∃ z, z = (q_align xs ys (decide (mo = 1))).1 := ⟨_, rfl⟩
  obtain ⟨hS, hB⟩ := q_align_ok xs ys (decide (mo = 1))
  rw [← hP] at hS hB
  have f1 : MF om [] [25] M (j_up M om 25 1) := MF.uf
  obtain ⟨M1, a1, a2, a3⟩ := m_takes hy (hD.eq (f1.arr (by simp) (by decide)) (f1.arr (by simp) (by decide))) ha (tq := 15) l26 (by decide)
  have f2 : MF om [] [27] M1 (j_up M1 om 27 (nI xs.length)) := MF.uf
  have g2 : MF om [15] [25, 27] M (j_up M1 om 27 (nI xs.length)) := ((f1.mono (by simp) (by simp)).trans (a2.mono (by simp) (by simp))).trans (f2.mono (by simp) (by simp))
  obtain ⟨M2, b1, b2, b3⟩ := m_takes hy (hD.eq (g2.arr (t := 1) (by simp) (by decide)) (g2.arr (t := 2) (by simp) (by decide))) hb (tq := 16) l28 (by decide)
  have f3 : MF om [] [29] M2 (j_up M2 om 29 (nI ys.length)) := MF.uf
  have g3 : MF om [15, 16] [25, 27, 29] M (j_up M2 om 29 (nI ys.length)) := ((g2.mono (by simp) (by simp)).trans (b2.mono (by simp) (by simp))).trans (f3.mono (by simp) (by simp))
  have r15 : RA (j_up M2 om 29 (nI ys.length)) (om + 15) xs := by
    rw [← hxs] at a3
    exact ((a3.eq (f2.arr (t := 15) (by simp) (by decide))).eq (b2.arr (t := 15) (by simp) (by decide))).eq (f3.arr (t := 15) (by simp) (by decide))
  have r16 : RA (j_up M2 om 29 (nI ys.length)) (om + 16) ys := by
    rw [← hys] at b3
    exact b3.eq (f3.arr (t := 16) (by simp) (by decide))
  obtain ⟨M3, c1, c2, c3, c4⟩ := m_aligns hy l26 l28 l30 (by decide) (by decide) (by decide) (show xs.length ≤ 24 by rw [hxs]; exact hxa) (show ys.length ≤ 24 by rw [hys]; exact hxb) r15 r16 (mo := mo) (by rw [g3.fld (by decide) (by decide)]; exact hmo)
  rw [← hP] at c3
  have f4 : MF om [] [31] M3 (j_up M3 om 31 (M3 om 22)) := MF.uf
  have f5 : MF om [] [33] (j_up M3 om 31 (M3 om 22)) (j_up (j_up M3 om 31 (M3 om 22)) om 33 0) := MF.uf
  have f45 : MF om [] [31, 33] M3 (j_up (j_up M3 om 31 (M3 om 22)) om 33 0) := (f4.mono (by simp) (by simp)).trans (f5.mono (by simp) (by simp))
  have c45 : MF om [10, 11, 12, 17] [22, 31, 33] (j_up M2 om 29 (nI ys.length)) (j_up (j_up M3 om 31 (M3 om 22)) om 33 0) := (c2.mono (by simp) (by simp)).trans (f45.mono (by simp) (by simp))
  have e27 : (j_up (j_up M3 om 31 (M3 om 22)) om 33 0) om 27 = nI xs.length := by
    rw [c45.fld (by decide) (by decide), f3.fld (by decide) (by decide), b2.fld (by decide) (by decide), j_up_s]
  have e29 : (j_up (j_up M3 om 31 (M3 om 22)) om 33 0) om 29 = nI ys.length := by
    rw [c45.fld (by decide) (by decide), j_up_s]
  obtain ⟨M4, d1, d2, d3, d4⟩ := m_tellParts hy (show xs.length ≤ 24 by rw [hxs]; exact hxa) (show ys.length ≤ 24 by rw [hys]; exact hxb) (lk_PM hS hB) e27 e29 (c3.eq (f45.arr (t := 17) (by simp) (by decide)))
  have k1 := m_pairMany hy (M := M4) (show xs.length ≤ 24 by rw [hxs]; exact hxa) hS hB (show ys.length ≤ 24 by rw [hys]; exact hxb) (by rw [d2.fld (by decide) (by decide)]; exact e27) ((c3.eq (f45.arr (t := 17) (by simp) (by decide))).eq (d2.arr (t := 17) (by simp) (by decide)))
  have f6 : MF om [] [0] M4 (j_up M4 om 0 0) := MF.uf
  have d26 : MF om [19] [35, 0] (j_up (j_up M3 om 31 (M3 om 22)) om 33 0) (j_up M4 om 0 0) := (d2.mono (by simp) (by simp)).trans (f6.mono (by simp) (by simp))
  refine ⟨j_up M4 om 0 0, ?_, ((g3.mono (by simp) (by simp)).trans (c45.mono (by simp) (by simp))).trans (d26.mono (by simp) (by simp)), j_up_s, ?_⟩
  · unfold s_X10_compare
    rw [if_neg (by rintro (h | h); exact m_isRegT ha h; exact m_isRegT hb h), e26, e28, e30]
    dsimp only [lt_]
    rw [a1]
    dsimp only [Option.bind]
    rw [← hxs, b1]
    dsimp only [Option.bind]
    rw [← hys, f3.fld (k := 27) (by decide) (by decide), b2.fld (by decide) (by decide), j_up_s, j_up_s, c1]
    dsimp only [Option.bind]
    rw [d1]
    dsimp only [Option.bind]
    rw [k1, ← hP]
    rfl
  · rw [← hxs, ← hys, ← hP]
    refine ⟨?_, ?_, fun i hi => absurd hi (Nat.not_lt_zero _), Nat.zero_le _, fun _ => ⟨by rw [hxs]; exact hxa, by rw [hys]; exact hxb, ⟨hS, hB⟩, ?_, ?_, ?_, ?_, ?_, ?_, ?_, ?_⟩⟩
    · rw [d26.fld (by decide) (by decide), c45.fld (by decide) (by decide), f3.fld (by decide) (by decide), b2.fld (by decide) (by decide), f2.fld (by decide) (by decide), a2.fld (by decide) (by decide), j_up_s]
      rfl
    · rw [d26.fld (by decide) (by decide), j_up_s]
      rfl
    · rw [d26.fld (by decide) (by decide)]
      exact e27
    · rw [d26.fld (by decide) (by decide)]
      exact e29
    · exact (r15.eq (c45.arr (t := 15) (by simp) (by decide))).eq (d26.arr (t := 15) (by simp) (by decide))
    · exact (r16.eq (c45.arr (t := 16) (by simp) (by decide))).eq (d26.arr (t := 16) (by simp) (by decide))
    · exact (c3.eq (f45.arr (t := 17) (by simp) (by decide))).eq (d26.arr (t := 17) (by simp) (by decide))
    · rw [d26.fld (by decide) (by decide), f5.fld (by decide) (by decide), j_up_s, c4]
    · rw [f6.fld (by decide) (by decide)]
      exact d3
    · exact d4.eq (f6.arr (t := 19) (by simp) (by decide))
/-- the steps, as the model walks them -/
def q_wk (xs ys : List Int32) (pt : Nat → Option Nat) : Nat → Nat → Nat → List Int32
  | 0, _, _ => []
  | d + 1, i, j =>
    if i < xs.length ∧ pt i = some j ∧ j < ys.length then (xs[i]?).getD (-1) :: q_wk xs ys pt d (i + 1) (j + 1)
    else if i < xs.length ∧ pt i = none then (100 + (xs[i]?).getD (-1)) :: q_wk xs ys pt d (i + 1) j
    else if j < ys.length then (200 + (ys[j]?).getD (-1)) :: q_wk xs ys pt d i (j + 1)
    else []
theorem q_wk_k {pt : Nat → Option Nat} {d i j : Nat} (h : i < xs.length ∧ pt i = some j ∧ j < ys.length) : q_wk xs ys pt (d + 1) i j = (xs[i]?).getD (-1) :: q_wk xs ys pt d (i + 1) (j + 1) := by
  conv => lhs; unfold q_wk
  rw [if_pos h]
theorem q_wk_g {pt : Nat → Option Nat} {d i j : Nat} (h1 : i < xs.length) (h2 : pt i = none) : q_wk xs ys pt (d + 1) i j = (100 + (xs[i]?).getD (-1)) :: q_wk xs ys pt d (i + 1) j := by
  conv => lhs; unfold q_wk
  rw [if_neg (fun c => by rw [h2] at c; exact absurd c.2.1 (by simp)), if_pos ⟨h1, h2⟩]
theorem q_wk_i {pt : Nat → Option Nat} {d i j : Nat} (h1 : ¬ (i < xs.length ∧ pt i = some j)) (h2 : ¬ (i < xs.length ∧ pt i = none)) (h3 : j < ys.length) : q_wk xs ys pt (d + 1) i j = (200 + (ys[j]?).getD (-1)) :: q_wk xs ys pt d i (j + 1) := by
  conv => lhs; unfold q_wk
  rw [if_neg (fun c => h1 ⟨c.1, c.2.1⟩), if_neg h2, if_pos h3]
theorem q_wk_ins {pt : Nat → Option Nat} : ∀ (k d i b0 j : Nat), j = b0 + k → j ≤ ys.length → (∀ t, b0 ≤ t → t < j → pt i ≠ some t) → (i < xs.length → pt i ≠ none) → k ≤ d →
    q_wk xs ys pt d i b0 = (l_seg ys b0 j).map (fun v => 200 + v) ++ q_wk xs ys pt (d - k) i j := by
  intro k
  induction k with
  | zero =>
    intro d i b0 j hj _ _ _ _
    rw [l_seg_nil (by omega), show b0 = j by omega]
    rfl
  | succ k ih =>
    intro d i b0 j hj hm h1 h2 hd
    obtain ⟨d, rfl⟩ : ∃ z, d = z + 1 := ⟨d - 1, by omega⟩
    have e := ih d i (b0 + 1) j (by omega) hm (fun t a b => h1 t (by omega) b) h2 (by omega)
    conv => lhs; unfold q_wk
    rw [if_neg (fun c => h1 b0 (Nat.le_refl _) (by omega) c.2.1), if_neg (fun c => h2 c.1 c.2), if_pos (by omega), e, l_seg_sub (b := b0) (e := j) (by omega) hm, show d + 1 - (k + 1) = d - k by omega]
    rfl
theorem q_sf_wk {pt : Nat → Option Nat} (hPM : PM pt xs.length ys.length) : ∀ (d i a0 b0 f : Nat) (acc : List Int32), xs.length = i + d → a0 ≤ i → (∀ t j, i ≤ t → pt t = some j → b0 ≤ j) → b0 ≤ ys.length → d + (ys.length - b0) ≤ f →
    q_sf xs ys pt d i a0 b0 acc = acc ++ (l_seg xs a0 i).map (fun v => 100 + v) ++ q_wk xs ys pt f i b0 := by
  intro d
  induction d with
  | zero =>
    intro i a0 b0 f acc hi ha hb hbl hf
    have e1 := q_wk_ins (xs := xs) (ys := ys) (pt := pt) (ys.length - b0) f i b0 ys.length (by omega) (Nat.le_refl _) (fun t _ _ c => by have := (hPM.1 i t c).1; omega) (fun c => by omega) (by omega)
    have e2 : q_wk xs ys pt (f - (ys.length - b0)) i ys.length = [] := by
      cases f - (ys.length - b0) with
      | zero => rfl
      | succ z =>
        unfold q_wk
        rw [if_neg (by omega), if_neg (by omega), if_neg (by omega)]
    rw [e1, e2, List.append_nil]
    unfold q_sf q_s1
    rw [show xs.length = i by omega, List.append_assoc]
  | succ d ih =>
    intro i a0 b0 f acc hi ha hb hbl hf
    obtain ⟨f, rfl⟩ : ∃ z, f = z + 1 := ⟨f - 1, by omega⟩
    unfold q_sf
    cases hpi : pt i with
    | none =>
      dsimp only
      have e := ih (i + 1) a0 b0 f acc (by omega) (by omega) (fun t j a b => hb t j (by omega) b) hbl (by omega)
      rw [e]
      conv => rhs; unfold q_wk
      rw [if_neg (by rw [hpi]; simp), if_pos ⟨by omega, hpi⟩]
      have e2 : l_seg xs a0 (i + 1) = l_seg xs a0 i ++ [(xs[i]?).getD (-1)] := by
        unfold l_seg
        rw [show i + 1 - a0 = (i - a0) + 1 by omega, List.take_add_one, List.getElem?_drop, show a0 + (i - a0) = i by omega, List.getElem?_eq_getElem (by omega)]
        rfl
      rw [e2]
      simp
    | some j =>
      dsimp only
      have hj := hPM.1 i j hpi
      have hbj := hb i j (Nat.le_refl _) hpi
      have e := ih (i + 1) (i + 1) (j + 1) (f - (j - b0)) (acc ++ q_s1 xs ys a0 i b0 j ++ [(xs[i]?).getD (-1)]) (by omega) (Nat.le_refl _) (fun t j' a b => hPM.2 i t j j' (by omega) hpi b) (by omega) (by omega)
      rw [e, l_seg_nil (Nat.le_refl _)]
      have e1 := q_wk_ins (xs := xs) (ys := ys) (pt := pt) (j - b0) (f + 1) i b0 j (by omega) (by omega) (fun t _ b c => by rw [hpi] at c; have := Option.some.inj c; omega) (fun c => by rw [hpi]; simp) (by omega)
      rw [e1, show f + 1 - (j - b0) = (f - (j - b0)) + 1 by omega]
      conv => rhs; unfold q_wk
      rw [if_pos ⟨by omega, hpi, hj.2⟩]
      unfold q_s1
      simp
theorem q_steps_wk {pt : Nat → Option Nat} (hPM : PM pt xs.length ys.length) : q_steps xs ys pt = q_wk xs ys pt (xs.length + ys.length) 0 0 := by
  unfold q_steps
  rw [q_sf_wk hPM xs.length 0 0 0 (xs.length + ys.length) [] (by omega) (Nat.le_refl _) (fun _ _ _ _ => Nat.zero_le _) (Nat.zero_le _) (by omega), l_seg_nil (Nat.le_refl _)]
  rfl
def q_R (p : Int32) : List Int32 → Nat → Unit ⊕ Int32
  | [], _ => Sum.inl ()
  | v :: L, c => if nI c = p then Sum.inr v else q_R p L (c + 1)
theorem q_R_c {p v : Int32} {L : List Int32} {c : Nat} : q_R p (v :: L) c = if nI c = p then Sum.inr v else q_R p L (c + 1) := rfl
theorem q_R_neg {p : Int32} (h : p < 0) : ∀ (L : List Int32) (c : Nat), c + L.length < 2 ^ 31 → q_R p L c = Sum.inl () := by
  intro L
  induction L with
  | nil => intro c _; rfl
  | cons v L ih =>
    intro c hc
    simp only [List.length_cons] at hc
    unfold q_R
    rw [if_neg (fun e => nI_pos (n := c) (by omega) (by rw [e]; exact h)), ih (c + 1) (by omega)]
theorem q_R_nI {k : Nat} (hk : k < 2 ^ 31) : ∀ (L : List Int32) (c : Nat), c + L.length < 2 ^ 31 → c ≤ k → q_R (nI k) L c = match L[k - c]? with
    | none => Sum.inl ()
    | some v => Sum.inr v := by
  intro L
  induction L with
  | nil => intro c _ _; rfl
  | cons v L ih =>
    intro c hc hck
    simp only [List.length_cons] at hc
    unfold q_R
    by_cases e : c = k
    · rw [if_pos (by rw [e]), e, Nat.sub_self]
      rfl
    · rw [if_neg (fun q => e ((nI_eq (by omega) hk).mp q)), ih (c + 1) (by omega) (by omega), show k - c = (k - (c + 1)) + 1 by omega, List.getElem?_cons_succ]
theorem m_step_loop (hy : MdAt Y om) (hx24 : xs.length ≤ 24) (hy24 : ys.length ≤ 24) (hPM : PM (lk P) xs.length ys.length) (h27 : M om 27 = nI xs.length) (h29 : M om 29 = nI ys.length) (h15 : RA M (om + 15) xs) (h16 : RA M (om + 16) ys) (hP : PT M (om + 17) P) (p : Int32) :
    ∀ (d i j c n : Nat), i ≤ xs.length → j ≤ ys.length → (xs.length - i) + (ys.length - j) ≤ d → d < n → (∀ t j', i ≤ t → lk P t = some j' → j ≤ j') →
      lp_X10_step_1 Y M om p n (nI c) (nI j) (nI i) = some (q_R p (q_wk xs ys (lk P) d i j) c) := by
  have e26 : j_rf Y om 26 = om + 15 := (hy (26, 15, 24) (by decide)).1
  have e28 : j_rf Y om 28 = om + 16 := (hy (28, 16, 24) (by decide)).1
  have e30 : j_rf Y om 30 = om + 17 := (hy (30, 17, 24) (by decide)).1
  have l26 : j_ln Y (om + 15) = 24 := (hy (26, 15, 24) (by decide)).2
  have l28 : j_ln Y (om + 16) = 24 := (hy (28, 16, 24) (by decide)).2
  have l30 : j_ln Y (om + 17) = 24 := (hy (30, 17, 24) (by decide)).2
  have e10 : ((1 : Int32) = 0) = False := eq_false (by decide)
  intro d
  induction d with
  | zero =>
    intro i j c n hi hj hd hn hb
    obtain ⟨n, rfl⟩ : ∃ z, n = z + 1 := ⟨n - 1, by omega⟩
    unfold lp_X10_step_1
    rw [h27, h29, if_neg (by rw [nI_ltI (by omega) (by omega), nI_leI (by omega) (by omega)]; omega)]
    rfl
  | succ d ih =>
    intro i j c n hi hj hd hn hb
    obtain ⟨n, rfl⟩ : ∃ z, n = z + 1 := ⟨n - 1, by omega⟩
    by_cases q0 : i = xs.length ∧ j = ys.length
    · have e0 : q_wk xs ys (lk P) (d + 1) i j = [] := by
        unfold q_wk
        rw [if_neg (by omega), if_neg (by omega), if_neg (by omega)]
      rw [e0]
      unfold lp_X10_step_1
      rw [h27, h29, if_neg (by rw [nI_ltI (by omega) (by omega), nI_leI (by omega) (by omega)]; omega)]
      rfl
    unfold lp_X10_step_1
    rw [h27, h29, e26, e28, e30, l26, l28, l30, if_pos (by rw [nI_ltI (by omega) (by omega), nI_leI (by omega) (by omega)]; omega)]
    by_cases q1 : i < xs.length
    · have hgi : j_g (nI i) 24 := j_g_nI (by omega) (by omega)
      have hng : ¬ nI xs.length ≤ nI i := nI_ge q1 (by omega)
      simp only [if_neg hng, lt_, if_pos hgi, nI_clamp (show i < 2 ^ 31 by omega), hP i (by omega), h15.get' q1]
      cases hl : lk P i with
      | none =>
        have e1 : ¬ oI none = nI j := fun q => nI_m1 (show j < 2 ^ 31 by omega) q.symm
        have e2 : oI none = (-1 : Int32) := rfl
        have e3 : ¬ (1 : Int32) = 0 := by decide
        have e4 : (¬ (0 : Int32) = 0 ∨ ¬ (1 : Int32) = 0) := Or.inr e3
        rw [if_pos (Or.inl e1), if_pos e2]
        simp only [Option.bind_some, e10, not_false_eq_true, not_true_eq_false, true_or, or_true, or_self, if_true, if_false]
        rw [q_wk_g q1 hl, q_R_c]
        by_cases q2 : nI c = p
        · rw [if_pos q2, if_pos q2]
        · rw [if_neg q2, if_neg q2, nI_1, nI_1, Int32.add_zero]
          exact ih (i + 1) j (c + 1) n (by omega) hj (by omega) (by omega) (fun t j' a b => hb t j' (by omega) b)
      | some k =>
        have hk := hPM.1 i k hl
        have hjk := hb i k (Nat.le_refl _) hl
        have e2 : ¬ oI (some k) = (-1 : Int32) := nI_m1 (show k < 2 ^ 31 by omega)
        have e3 : ¬ (1 : Int32) = 0 := by decide
        have e6 : ¬ nI ys.length ≤ nI j := nI_ge (by omega) (by omega)
        rw [if_neg e2]
        have hgj : j_g (nI j) 24 := j_g_nI (by omega) (by omega)
        by_cases q3 : k = j
        · have e5 : ¬ (¬ oI (some k) = nI j ∨ nI ys.length ≤ nI j) := by
            rintro (c | c)
            · exact c (by rw [q3]; rfl)
            · exact e6 c
          have e4 : (¬ (1 : Int32) = 0 ∨ ¬ (0 : Int32) = 0) := Or.inl e3
          rw [if_neg e5]
          simp only [Option.bind_some, e10, not_false_eq_true, not_true_eq_false, true_or, or_true, or_self, if_true, if_false]
          rw [q_wk_k ⟨q1, by rw [hl, q3], by omega⟩, q_R_c]
          by_cases q2 : nI c = p
          · rw [if_pos q2, if_pos q2]
          · rw [if_neg q2, if_neg q2, nI_1, nI_1, nI_1]
            exact ih (i + 1) (j + 1) (c + 1) n (by omega) (by omega) (by omega) (by omega) (fun t j' a b => by have := hPM.2 i t k j' (by omega) hl b; omega)
        · have e5 : (¬ oI (some k) = nI j ∨ nI ys.length ≤ nI j) := Or.inl (fun c => q3 ((nI_eq (by omega) (by omega)).mp c))
          have e4 : ¬ (¬ (0 : Int32) = 0 ∨ ¬ (0 : Int32) = 0) := by decide
          rw [if_pos e5]
          simp only [Option.bind_some, e10, not_false_eq_true, not_true_eq_false, true_or, or_true, or_self, if_true, if_false, if_pos hgj, nI_clamp (show j < 2 ^ 31 by omega), h16.get' (show j < ys.length by omega)]
          rw [q_wk_i (fun c => q3 (Option.some.inj (hl.symm.trans c.2))) (fun c => by rw [hl] at c; exact absurd c.2 (by simp)) (by omega), q_R_c]
          by_cases q2 : nI c = p
          · rw [if_pos q2, if_pos q2]
          · rw [if_neg q2, if_neg q2, nI_1, nI_1, Int32.add_zero]
            exact ih i (j + 1) (c + 1) n hi (by omega) (by omega) (by omega) (fun t j' a b => by
              by_cases q4 : t = i
              · rw [q4, hl] at b
                have := Option.some.inj b
                omega
              · have := hPM.2 i t k j' (by omega) hl b
                omega)
    · have hng : nI xs.length ≤ nI i := nI_le (by omega) (by omega)
      have hgj : j_g (nI j) 24 := j_g_nI (by omega) (by omega)
      have e4 : ¬ (¬ (0 : Int32) = 0 ∨ ¬ (0 : Int32) = 0) := by decide
      simp only [if_pos hng, lt_, Option.bind_some, e10, not_false_eq_true, not_true_eq_false, true_or, or_true, or_self, if_true, if_false, if_pos hgj, nI_clamp (show j < 2 ^ 31 by omega), h16.get' (show j < ys.length by omega)]
      rw [q_wk_i (fun c => q1 c.1) (fun c => q1 c.1) (by omega), q_R_c]
      by_cases q2 : nI c = p
      · rw [if_pos q2, if_pos q2]
      · rw [if_neg q2, if_neg q2, nI_1, nI_1, Int32.add_zero]
        exact ih i (j + 1) (c + 1) n hi (by omega) (by omega) (by omega) (fun t j' a b => by have := (hPM.1 t j' b).1; omega)
theorem m_step (hy : MdAt Y om) {mv : List (List Int32)} (hC : CMm M om true xs ys P anc mv) (p : Int32) :
    s_X10_step Y M om p = some (if ¬ p < 0 ∧ p.toNatClampNeg < (q_steps xs ys (lk P)).length then (l_at (q_steps xs ys (lk P)) p, j_up M om 0 0) else (0, j_up M om 0 2)) := by
  obtain ⟨a1, a2, a3, a4, a5⟩ := hC
  obtain ⟨b1, b2, b3, b4, b5, b6, b7, b8, b9, b10, b11⟩ := a5 rfl
  have hPM := lk_PM b3.1 b3.2
  have e := m_step_loop hy b1 b2 hPM b4 b5 b6 b7 b8 p (xs.length + ys.length) 0 0 0 j_fuel (Nat.zero_le _) (Nat.zero_le _) (by omega) (j_fuel_gt (by omega)) (fun _ _ _ _ => Nat.zero_le _)
  rw [← q_steps_wk hPM] at e
  have hlen : (q_steps xs ys (lk P)).length ≤ 48 := by
    rw [q_steps_wk hPM]
    have : ∀ (d i j : Nat), (q_wk xs ys (lk P) d i j).length ≤ d := by
      intro d
      induction d with
      | zero => intro i j; exact Nat.le_refl _
      | succ d ih =>
        intro i j
        unfold q_wk
        split
        · have := ih (i + 1) (j + 1); simp; omega
        · split
          · have := ih (i + 1) j; simp; omega
          · split
            · have := ih i (j + 1); simp; omega
            · exact Nat.zero_le _
    exact Nat.le_trans (this _ 0 0) (by omega)
  unfold s_X10_step
  rw [a1, if_neg (by decide), show (0 : Int32) = nI 0 from nI_0.symm, e, nI_0]
  dsimp only [Option.bind]
  by_cases h : p < 0
  · rw [q_R_neg h _ 0 (by omega), if_neg (fun c => c.1 h)]
    rfl
  · obtain ⟨k, hk, rfl⟩ := nI_of h
    rw [q_R_nI hk _ 0 (by omega) (Nat.zero_le _), Nat.sub_zero, nI_clamp hk]
    by_cases q : k < (q_steps xs ys (lk P)).length
    · rw [if_pos ⟨h, q⟩, List.getElem?_eq_getElem q, l_at_lt hk q]
      rfl
    · rw [if_neg (fun c => q c.2), List.getElem?_eq_none (by omega)]
      rfl
end MCM

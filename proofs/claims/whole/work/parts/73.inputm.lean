/-! ===== pure: reading the input; the model ===== -/
def TP (M : JM) (om : Nat) (tp : List Int32) : Prop := M om 6 = nI tp.length ∧ tp.length ≤ 50 ∧ RA M (om + 3) tp
theorem TP.fr {M M' : JM} {om : Nat} {A F : List Nat} {tp : List Int32} (h : TP M om tp) (hf : MF om A F M M') (h0 : 0 ∉ A) (hA : 3 ∉ A) (hF : 6 ∉ F) : TP M' om tp := ⟨by rw [hf.fld hF h0]; exact h.1, h.2.1, h.2.2.eq (hf.arr hA (by decide))⟩
/-- what the model has read: no more than its row takes -/
def OC (M : JM) (om : Nat) (U : List Int32) : Prop := OT M om (U.take 1999)
theorem OC.full {M : JM} {om : Nat} {U V : List Int32} (h : OC M om U) (hU : 1999 ≤ U.length) : OC M om (U ++ V) := by
  unfold OC at h ⊢
  rw [List.take_append_of_le_length hU]
  exact h
section INM
variable {Y : JY} {M : JM} {om : Nat} {tp : List Int32}
theorem OC.fr {M' : JM} {U : List Int32} (h : OC M om U) {F : List Nat} (hf : MF om [] F M M') (hF : 18 ∉ F) : OC M' om U := ⟨by rw [hf.fld hF (by decide)]; exact h.1, h.2.eq (hf.arr (by decide) (by decide))⟩
theorem OC.sz {U : List Int32} (h : OC M om U) : M om 18 = nI (min U.length 1999) := by
  rw [h.1, List.length_take, Nat.min_comm]
theorem m_here (hy : MdAt Y om) (hT : TP M om tp) {i : Nat} (h16 : M om 16 = nI i) (hi : i < 1000) : s_X10_here Y M om = some ((tp[i]?).getD 0) := by
  have e5 : j_rf Y om 5 = om + 3 := (hy (5, 3, 50) (by decide)).1
  have l5 : j_ln Y (om + 3) = 50 := (hy (5, 3, 50) (by decide)).2
  obtain ⟨t1, t2, t3⟩ := hT
  unfold s_X10_here
  rw [t1, h16]
  by_cases q : i < tp.length
  · rw [if_neg (nI_ge q (by omega)), e5, l5, if_pos (j_g_nI (by omega) (by omega)), nI_clamp (by omega), t3 i q]
    rfl
  · rw [if_pos (nI_le (by omega) (by omega)), List.getElem?_eq_none (by omega)]
    rfl
theorem m_comes (hy : MdAt Y om) {U : List Int32} (h : OC M om U) (v : Int32) : ∃ M', s_X10_comes Y M om v = some M' ∧ MF om [9] [18] M M' ∧ OC M' om (U ++ [v]) := by
  have e15 : j_rf Y om 15 = om + 9 := (hy (15, 9, 2000) (by decide)).1
  have l15 : j_ln Y (om + 9) = 2000 := (hy (15, 9, 2000) (by decide)).2
  have hs := h.sz
  unfold s_X10_comes
  rw [hs]
  by_cases q : 1999 ≤ U.length
  · rw [Nat.min_eq_right q, if_pos (by decide)]
    exact ⟨M, rfl, MF.refl, h.full q⟩
  · have hU : U.take 1999 = U := List.take_of_length_le (by omega)
    have h' : OT M om U := by
      have h9 := h
      unfold OC at h9
      rw [hU] at h9
      exact h9
    rw [Nat.min_eq_left (by omega), if_neg (by rw [show (1999 : Int32) = nI 1999 from rfl]; exact nI_ge (by omega) (by omega)), e15, l15, if_pos (j_g_nI (by omega) (by omega)), nI_clamp (by omega)]
    have f1 : MF om [9] [] M (j_up M (om + 9) U.length v) := MF.ua
    have f2 : MF om [] [18] (j_up M (om + 9) U.length v) (j_up (j_up M (om + 9) U.length v) om 18 (nI (U.length + 1))) := MF.uf
    refine ⟨j_up (j_up M (om + 9) U.length v) om 18 (nI (U.length + 1)), ?_, (f1.mono (by simp) (by simp)).trans (f2.mono (by simp) (by simp)), ?_⟩
    · dsimp only [lt_]
      rw [f1.fld (by decide) (by decide), h'.1, nI_1]
    · unfold OC
      rw [List.take_of_length_le (by rw [List.length_append, List.length_singleton]; omega)]
      exact ⟨by rw [j_up_s, List.length_append]; rfl, h'.2.app.eq (f2.arr (t := 9) (by decide) (by decide))⟩
theorem m_rep2 (hy : MdAt Y om) {U : List Int32} (hU : U.length ≤ 1999) : ∀ (d i n : Nat) (M : JM) (V : List Int32), U.length = i + d → d < n → OC M om (U ++ V) → ∃ M', lp_X10_repeats_2 Y (nI U.length) om n (nI i) M = some M' ∧ MF om [9] [18] M M' ∧ OC M' om (U ++ V ++ U.drop i) := by
  have e15 : j_rf Y om 15 = om + 9 := (hy (15, 9, 2000) (by decide)).1
  have l15 : j_ln Y (om + 9) = 2000 := (hy (15, 9, 2000) (by decide)).2
  intro d
  induction d with
  | zero =>
    intro i n M V hi hn h
    obtain ⟨n, rfl⟩ : ∃ z, n = z + 1 := ⟨n - 1, by omega⟩
    refine ⟨M, ?_, MF.refl, ?_⟩
    · unfold lp_X10_repeats_2
      rw [if_pos (nI_le (by omega) (by omega))]
    · rw [List.drop_eq_nil_of_le (by omega), List.append_nil]
      exact h
  | succ d ih =>
    intro i n M V hi hn h
    obtain ⟨n, rfl⟩ : ∃ z, n = z + 1 := ⟨n - 1, by omega⟩
    have hil : i < U.length := by omega
    have hv : M (om + 9) i = U[i] := by
      have h2 := h.2 i (by rw [List.length_take, List.length_append]; omega)
      rw [List.getElem?_take_of_lt (by omega), List.getElem?_append_left hil, List.getElem?_eq_getElem hil] at h2
      exact (Option.some.inj h2).symm
    obtain ⟨M1, a1, a2, a3⟩ := m_comes hy h U[i]
    rw [List.append_assoc] at a3
    obtain ⟨M', b1, b2, b3⟩ := ih (i + 1) n M1 (V ++ [U[i]]) (by omega) (by omega) a3
    refine ⟨M', ?_, a2.trans b2, ?_⟩
    · unfold lp_X10_repeats_2
      rw [if_neg (nI_ge (by omega) (by omega)), e15, l15, if_pos (j_g_nI (by omega) (by omega)), nI_clamp (by omega), hv, a1]
      dsimp only [Option.bind, lt_]
      rw [nI_1]
      exact b1
    · rw [List.drop_eq_getElem_cons hil]
      simp only [List.append_assoc, List.cons_append, List.nil_append] at b3 ⊢
      exact b3
theorem m_rep2f (hy : MdAt Y om) {U : List Int32} (hU : 1999 ≤ U.length) : ∀ (d i n : Nat) (M : JM), 1999 = i + d → d < n → OC M om U → ∃ M', lp_X10_repeats_2 Y (nI 1999) om n (nI i) M = some M' ∧ MF om [9] [18] M M' ∧ OC M' om U := by
  have e15 : j_rf Y om 15 = om + 9 := (hy (15, 9, 2000) (by decide)).1
  have l15 : j_ln Y (om + 9) = 2000 := (hy (15, 9, 2000) (by decide)).2
  intro d
  induction d with
  | zero =>
    intro i n M hi hn h
    obtain ⟨n, rfl⟩ : ∃ z, n = z + 1 := ⟨n - 1, by omega⟩
    refine ⟨M, ?_, MF.refl, h⟩
    unfold lp_X10_repeats_2
    rw [if_pos (nI_le (by omega) (by omega))]
  | succ d ih =>
    intro i n M hi hn h
    obtain ⟨n, rfl⟩ : ∃ z, n = z + 1 := ⟨n - 1, by omega⟩
    have hc : ∀ v, s_X10_comes Y M om v = some M := fun v => by
      unfold s_X10_comes
      rw [h.sz, Nat.min_eq_right hU, if_pos (by decide)]
    obtain ⟨M', b1, b2, b3⟩ := ih (i + 1) n M (by omega) (by omega) h
    refine ⟨M', ?_, b2, b3⟩
    unfold lp_X10_repeats_2
    rw [if_neg (nI_ge (by omega) (by omega)), e15, l15, if_pos (j_g_nI (by omega) (by omega)), hc]
    dsimp only [Option.bind, lt_]
    rw [nI_1]
    exact b1
/-- from an item's begin on, a part as often as a figure says -/
theorem m_repeats (hy : MdAt Y om) (hT : TP M om tp) {i : Nat} (h16 : M om 16 = nI i) (hi : i ≤ 50) {U : List Int32} (h : OC M om U) {ib : Nat} (hib : ib ≤ U.length) :
    ∃ M', s_X10_repeats Y M om (nI (min ib 1999)) = some M' ∧ MF om [9] [16, 18] M M' ∧
      (rd_D ((tp[i]?).getD 0) → M' om 16 = nI (i + 1) ∧ OC M' om (U ++ rd_rep (U.drop ib) (rd_t ((tp[i]?).getD 0)))) ∧ (¬ rd_D ((tp[i]?).getD 0) → M' = M) := by
  unfold s_X10_repeats
  rw [m_here hy hT h16 (by omega)]
  dsimp only [Option.bind]
  by_cases q : rd_D ((tp[i]?).getD 0)
  · rw [if_neg (fun c => q (m_in.mp c))]
    obtain ⟨k, k2, k9, k1, k3⟩ := rd_t_D q
    obtain ⟨T, hTl⟩ : ∃ z, z = min U.length 1999 := ⟨_, rfl⟩
    have hs : M om 18 = nI T := by rw [h.sz, hTl]
    have loop : ∀ (d j n : Nat) (M : JM) (V : List Int32), k = j + d → 1 ≤ j → d < n → TP M om tp → M om 16 = nI i → OC M om (U ++ V) → ∃ M', lp_X10_repeats_1 Y om (nI T) (nI (min ib 1999)) n (nI j) M = some M' ∧ MF om [9] [18] M M' ∧ OC M' om (U ++ V ++ rd_rep (U.drop ib) d) := by
      intro d
      induction d with
      | zero =>
        intro j n M V hj hj1 hn hT h16 hV
        obtain ⟨n, rfl⟩ : ∃ z, n = z + 1 := ⟨n - 1, by omega⟩
        refine ⟨M, ?_, MF.refl, by show OC M om (U ++ V ++ []); rw [List.append_nil]; exact hV⟩
        unfold lp_X10_repeats_1
        rw [m_here hy hT h16 (by omega)]
        dsimp only [Option.bind]
        rw [k1, if_pos (nI_le (by omega) (by omega))]
      | succ d ih =>
        intro j n M V hj hj1 hn hT h16 hV
        obtain ⟨n, rfl⟩ : ∃ z, n = z + 1 := ⟨n - 1, by omega⟩
        have one : ∃ M1, lp_X10_repeats_2 Y (nI T) om j_fuel (nI (min ib 1999)) M = some M1 ∧ MF om [9] [18] M M1 ∧ OC M1 om (U ++ (V ++ U.drop ib)) := by
          by_cases c : U.length ≤ 1999
          · obtain ⟨M1, a1, a2, a3⟩ := m_rep2 hy c (U.length - ib) ib j_fuel M V (by omega) (j_fuel_gt (by omega)) hV
            rw [hTl, Nat.min_eq_left c, Nat.min_eq_left (by omega)]
            rw [List.append_assoc] at a3
            exact ⟨M1, a1, a2, a3⟩
          · obtain ⟨M1, a1, a2, a3⟩ := m_rep2f hy (U := U ++ V) (by rw [List.length_append]; omega) (1999 - min ib 1999) (min ib 1999) j_fuel M (by omega) (j_fuel_gt (by omega)) hV
            rw [hTl, Nat.min_eq_right (by omega)]
            refine ⟨M1, a1, a2, ?_⟩
            rw [← List.append_assoc]
            exact a3.full (by rw [List.length_append]; omega)
        obtain ⟨M1, a1, a2, a3⟩ := one
        obtain ⟨M', b1, b2, b3⟩ := ih (j + 1) n M1 (V ++ U.drop ib) (by omega) (by omega) (by omega) (hT.fr a2 (by decide) (by decide) (by decide)) (by rw [a2.fld (by decide) (by decide)]; exact h16) a3
        refine ⟨M', ?_, a2.trans b2, ?_⟩
        · unfold lp_X10_repeats_1
          rw [m_here hy hT h16 (by omega)]
          dsimp only [Option.bind]
          rw [k1, if_neg (nI_ge (by omega) (by omega)), a1]
          dsimp only [lt_]
          rw [nI_1]
          exact b1
        · show OC M' om (U ++ V ++ (U.drop ib ++ rd_rep (U.drop ib) d))
          simp only [List.append_assoc] at b3 ⊢
          exact b3
    obtain ⟨M1, a1, a2, a3⟩ := loop (k - 1) 1 j_fuel M [] (by omega) (Nat.le_refl _) (j_fuel_gt (by omega)) hT h16 (by rw [List.append_nil]; exact h)
    rw [List.append_nil] at a3
    rw [show nI 1 = (1 : Int32) from rfl] at a1
    have f2 : MF om [] [16] M1 (j_up M1 om 16 (nI (i + 1))) := MF.uf
    refine ⟨j_up M1 om 16 (nI (i + 1)), ?_, (a2.mono (by simp) (by simp)).trans (f2.mono (by simp) (by simp)), fun _ => ⟨j_up_s, ?_⟩, fun c => absurd q c⟩
    · dsimp only [lt_]
      rw [hs, a1]
      dsimp only
      rw [a2.fld (by decide) (by decide), h16, nI_1]
    · rw [k3]
      exact a3.fr f2 (by decide)
  · rw [if_pos (m_in.mpr (Classical.not_not.mp q))]
    exact ⟨M, rfl, MF.refl, fun c => absurd c q, fun _ => rfl⟩
/-- where an item may begin -/
def RQ (tp : List Int32) (i : Nat) (p : Int32) (st : List Nat) : Prop := (rd_L p ∨ p = 41 → ¬ rd_D ((tp[i]?).getD 0)) ∧ ((tp[i]?).getD 0 = 41 → st = [] ∨ p = 40) ∧ (i < tp.length ∨ st ≠ [])
/-- what reading an item does -/
def RS (M M' : JM) (om : Nat) (tp : List Int32) (i : Nat) (p : Int32) (st : List Nat) (ib : Nat) (U : List Int32) (good : Int32) : Prop :=
  MF om [9] [16, 17, 18] M M' ∧ ((good = 1 ∧ ∃ i' p' ib' U', i < i' ∧ i' ≤ tp.length ∧ M' om 16 = nI i' ∧ M' om 17 = nI st.length ∧ OC M' om U' ∧ U.length ≤ U'.length ∧ ib' ≤ U'.length ∧ ¬ p' = 40 ∧ (rd_L p' ∨ p' = 41 → ¬ rd_D ((tp[i']?).getD 0)) ∧ rd (tp.drop i) i p st ib U = rd (tp.drop i') i' p' st ib' U') ∨
    (good = 0 ∧ ∃ i' U', M' om 16 = nI i' ∧ i' ≤ 50 ∧ rd (tp.drop i) i p st ib U = (some i', U')))
theorem rd_step {i : Nat} {c p : Int32} {st : List Nat} {ib : Nat} {U : List Int32} (hi : tp[i]? = some c) : rd (tp.drop i) i p st ib U = if rd_ok p c st.length then
      (if c = 40 then rd (tp.drop (i + 1)) (i + 1) c (U.length :: st) ib U
      else if c = 41 then rd (tp.drop (i + 1)) (i + 1) c st.tail ((st.head?).getD 0) U
      else if rd_L c then rd (tp.drop (i + 1)) (i + 1) c st U.length (U ++ [c - 97])
      else rd (tp.drop (i + 1)) (i + 1) c st ib (U ++ rd_rep (U.drop ib) (rd_t c)))
    else (some i, U) := by
  have hil : i < tp.length := by
    apply Classical.byContradiction
    intro q
    rw [List.getElem?_eq_none (by omega)] at hi
    exact absurd hi (by simp)
  have e := List.drop_eq_getElem_cons hil
  have e2 : tp[i] = c := by
    rw [List.getElem?_eq_getElem hil] at hi
    exact Option.some.inj hi
  rw [e2] at e
  rw [e]
  rfl
/-- behind an item, a figure -/
theorem m_tail (hy : MdAt Y om) (hT : TP M om tp) {i : Nat} (hi : i ≤ tp.length) (h16 : M om 16 = nI i) {st : List Nat} (h17 : M om 17 = nI st.length) {p : Int32} (hp : rd_L p ∨ p = 41) {U : List Int32} (h : OC M om U) {ib : Nat} (hib : ib ≤ U.length) {i0 : Nat} (h0 : i0 < i) {fr : Nat} (hfr : fr = min ib 1999) :
    ∃ M', s_X10_repeats Y M om (nI fr) = some M' ∧ MF om [9] [16, 17, 18] M M' ∧ ∃ i' p' ib' U', i0 < i' ∧ i' ≤ tp.length ∧ M' om 16 = nI i' ∧ M' om 17 = nI st.length ∧ OC M' om U' ∧ U.length ≤ U'.length ∧ ib' ≤ U'.length ∧ ¬ p' = 40 ∧ (rd_L p' ∨ p' = 41 → ¬ rd_D ((tp[i']?).getD 0)) ∧ rd (tp.drop i) i p st ib U = rd (tp.drop i') i' p' st ib' U' := by
  have t2 := hT.2.1
  obtain ⟨M', a1, a2, a3⟩ := m_repeats hy hT h16 (by omega) h hib
  rw [hfr]
  refine ⟨M', a1, a2.mono (by simp) (by simp), ?_⟩
  have h40 : ¬ rd_L 40 ∧ ¬ (40 : Int32) = 41 := by decide
  by_cases q : rd_D ((tp[i]?).getD 0)
  · have a3 := a3.1 q
    have hil : i < tp.length := by
      apply Classical.byContradiction
      intro c
      rw [List.getElem?_eq_none (by omega)] at q
      exact absurd q (by decide)
    have hc : tp[i]? = some tp[i] := List.getElem?_eq_getElem hil
    rw [hc] at a3 q
    have q' : rd_D tp[i] := q
    have n40 : ¬ tp[i] = 40 := fun c => by rw [c] at q'; exact absurd q' (by decide)
    have n41 : ¬ tp[i] = 41 := fun c => by rw [c] at q'; exact absurd q' (by decide)
    have nL : ¬ rd_L tp[i] := fun c => by
      have h1 : ¬ (57 : Int32) < tp[i] := fun x => q' (Or.inr x)
      have h2 : ¬ tp[i] < 97 := fun x => c (Or.inl x)
      rw [Int32.lt_iff_toInt_lt] at h1 h2
      have : (57 : Int32).toInt = 57 := by decide
      have : (97 : Int32).toInt = 97 := by decide
      omega
    have hok : rd_ok p tp[i] st.length := by
      unfold rd_ok
      rw [if_neg n40, if_neg n41, if_pos q']
      exact hp
    refine ⟨i + 1, tp[i], ib, _, by omega, by omega, a3.1, ?_, a3.2, by rw [List.length_append]; omega, by rw [List.length_append]; omega, n40, ?_, ?_⟩
    · rw [a2.fld (by decide) (by decide)]
      exact h17
    · rintro (c | c)
      · exact absurd c nL
      · exact absurd c n41
    · rw [rd_step hc, if_pos hok, if_neg n40, if_neg n41, if_neg nL]
      rfl
  · have a3 := a3.2 q
    subst a3
    exact ⟨i, p, ib, U, h0, hi, h16, h17, h, Nat.le_refl _, hib, fun c => by rw [c] at hp; exact hp.elim h40.1 h40.2, fun _ => q, rfl⟩
theorem m_reads (hy : MdAt Y om) : ∀ (n : Nat) (M : JM) (i : Nat) (p : Int32) (st : List Nat) (ib : Nat) (U : List Int32), 1 ≤ n → 5 ≤ n + st.length → st.length ≤ 4 → i ≤ tp.length → TP M om tp → M om 16 = nI i → M om 17 = nI st.length → OC M om U → ib ≤ U.length → RQ tp i p st →
    ∃ good M', s_X10_readsItem Y n M om = some (good, M') ∧ RS M M' om tp i p st ib U good := by
  intro n
  induction n with
  | zero => intro M i p st ib U h; omega
  | succ n ihn =>
    intro M i p st ib U _ hn hst hi hT h16 h17 hU hib hQ
    have t2 := hT.2.1
    obtain ⟨c, hc⟩ : ∃ z, z = (tp[i]?).getD 0 := ⟨_, rfl⟩
    have hh := m_here hy hT h16 (by omega)
    rw [← hc] at hh
    obtain ⟨r1, r2, r3⟩ := hQ
    rw [← hc] at r1 r2
    have hsome : ¬ c = 0 → tp[i]? = some c := by
      intro h0
      cases hg : tp[i]? with
      | none =>
        rw [hg] at hc
        exact absurd hc h0
      | some x =>
        rw [hg] at hc
        rw [hc]
        rfl
    have hlt : ∀ {x}, tp[i]? = some x → i < tp.length := by
      intro x hx
      apply Classical.byContradiction
      intro q
      rw [List.getElem?_eq_none (by omega)] at hx
      exact absurd hx (by simp)
    have hlt' : ∀ {x : Int32} {k : Nat}, tp[k]? = some x → k < tp.length := by
      intro x k hx
      apply Classical.byContradiction
      intro q
      rw [List.getElem?_eq_none (by omega)] at hx
      exact absurd hx (by simp)
    show ∃ good M', s_X10_readsItem_b Y (s_X10_readsItem Y n) M om = some (good, M') ∧ RS M M' om tp i p st ib U good
    unfold s_X10_readsItem_b
    dsimp only [lt_]
    rw [hh]
    dsimp only [Option.bind]
    have hsz := hU.sz
    by_cases q1 : rd_L c
    · rw [if_neg (fun x => q1 (m_in.mp x))]
      have hs := hsome (fun x => by rw [x] at q1; exact absurd q1 (by decide))
      have hil := hlt hs
      have n40 : ¬ c = 40 := fun x => by rw [x] at q1; exact absurd q1 (by decide)
      have n41 : ¬ c = 41 := fun x => by rw [x] at q1; exact absurd q1 (by decide)
      have nD : ¬ rd_D c := fun x => by
        have h1 : ¬ (57 : Int32) < c := fun y => x (Or.inr y)
        have h2 : ¬ c < 97 := fun y => q1 (Or.inl y)
        rw [Int32.lt_iff_toInt_lt] at h1 h2
        have : (57 : Int32).toInt = 57 := by decide
        have : (97 : Int32).toInt = 97 := by decide
        omega
      obtain ⟨M1, a1, a2, a3⟩ := m_comes hy hU (c - 97)
      rw [a1]
      dsimp only
      have f2 : MF om [] [16] M1 (j_up M1 om 16 (nI (i + 1))) := MF.uf
      rw [a2.fld (by decide) (by decide), h16, nI_1]
      have F2 : MF om [9] [16, 18] M (j_up M1 om 16 (nI (i + 1))) := (a2.mono (by simp) (by simp)).trans (f2.mono (by simp) (by simp))
      obtain ⟨M', b1, b2, i', p', ib', U', b3, b4, b5, b6, b7, b8, b9, b10, b11, b12⟩ := m_tail hy (hT.fr F2 (by decide) (by decide) (by decide)) (i := i + 1) (by omega) j_up_s (st := st) (by rw [F2.fld (by decide) (by decide)]; exact h17) (p := c) (Or.inl q1) (a3.fr f2 (by decide)) (ib := U.length) (by rw [List.length_append]; omega) (i0 := i) (by omega) (fr := min U.length 1999) rfl
      rw [hsz, b1]
      refine ⟨1, M', rfl, (F2.mono (by simp) (by simp)).trans b2, Or.inl ⟨rfl, i', p', ib', U', b3, b4, b5, b6, b7, ?_, b9, b10, b11, ?_⟩⟩
      · rw [List.length_append] at b8
        omega
      · have hok : rd_ok p c st.length := by
          unfold rd_ok
          rw [if_neg n40, if_neg n41, if_neg nD]
          exact q1
        rw [rd_step hs, if_pos hok, if_neg n40, if_neg n41, if_pos q1]
        exact b12
    · rw [if_pos (m_in.mpr (Classical.not_not.mp q1))]
      by_cases q2 : c = 40 ∧ st.length < 4
      · obtain ⟨q2, q3⟩ := q2
        have hs := hsome (fun x => by rw [x] at q2; exact absurd q2 (by decide))
        have hil := hlt hs
        have e4 : ¬ nI st.length = (4 : Int32) := fun x => by
          have := (nI_eq (b := 4) (by omega) (by omega)).mp x
          omega
        rw [h17, if_neg (by rintro (x | x); exact x q2; exact e4 x)]
        have f1 : MF om [] [17] M (j_up M om 17 (nI (st.length + 1))) := MF.uf
        have f2 : MF om [] [16] (j_up M om 17 (nI (st.length + 1))) (j_up (j_up M om 17 (nI (st.length + 1))) om 16 (nI (i + 1))) := MF.uf
        have F2 : MF om [] [16, 17] M (j_up (j_up M om 17 (nI (st.length + 1))) om 16 (nI (i + 1))) := (f1.mono (by simp) (by simp)).trans (f2.mono (by simp) (by simp))
        rw [nI_1, f1.fld (by decide) (by decide), h16, nI_1]
        have hok : rd_ok p c st.length := by
          unfold rd_ok
          rw [if_pos q2]
          exact q3
        have hrd : rd (tp.drop i) i p st ib U = rd (tp.drop (i + 1)) (i + 1) 40 (U.length :: st) ib U := by
          rw [rd_step hs, if_pos hok, if_pos q2, q2]
        obtain ⟨M2, hM2⟩ : ∃ z, z = j_up (j_up M om 17 (nI (st.length + 1))) om 16 (nI (i + 1)) := ⟨_, rfl⟩
        rw [← hM2] at F2 f2 ⊢
        obtain ⟨g1, M3, a1, a2, a3⟩ := ihn M2 (i + 1) 40 (U.length :: st) ib U (by omega) (by rw [List.length_cons]; omega) (by rw [List.length_cons]; omega) (by omega) (hT.fr F2 (by decide) (by decide) (by decide)) (by rw [hM2, j_up_s]) (by rw [f2.fld (by decide) (by decide), j_up_s]; rfl) (hU.fr F2 (by decide)) hib ⟨fun x => absurd x (by decide), fun _ => Or.inr rfl, Or.inr (by simp)⟩
        rw [a1]
        dsimp only
        have loop : ∀ (d i1 : Nat) (n' : Nat) (M3 : JM) (g : Int32), tp.length - i1 ≤ d → d + 1 < n' → MF om [9] [16, 17, 18] M M3 →
            ((g = 1 ∧ ∃ p1 ib1 U1, i < i1 ∧ i1 ≤ tp.length ∧ M3 om 16 = nI i1 ∧ M3 om 17 = nI (st.length + 1) ∧ OC M3 om U1 ∧ U.length ≤ U1.length ∧ ib1 ≤ U1.length ∧ ¬ p1 = 40 ∧ (rd_L p1 ∨ p1 = 41 → ¬ rd_D ((tp[i1]?).getD 0)) ∧ rd (tp.drop i) i p st ib U = rd (tp.drop i1) i1 p1 (U.length :: st) ib1 U1) ∨ (g = 0 ∧ ∃ i' U', M3 om 16 = nI i' ∧ i' ≤ 50 ∧ rd (tp.drop i) i p st ib U = (some i', U'))) →
            ∃ g' M4, lp_X10_readsItem_1 Y om (s_X10_readsItem Y n) n' g M3 = some (g', M4) ∧ MF om [9] [16, 17, 18] M M4 ∧
              ((g' = 1 ∧ ∃ i2 p2 ib2 U2, i < i2 ∧ tp[i2]? = some 41 ∧ M4 om 16 = nI i2 ∧ M4 om 17 = nI (st.length + 1) ∧ OC M4 om U2 ∧ U.length ≤ U2.length ∧ ¬ p2 = 40 ∧ rd (tp.drop i) i p st ib U = rd (tp.drop i2) i2 p2 (U.length :: st) ib2 U2) ∨ (g' = 0 ∧ ∃ i' U', M4 om 16 = nI i' ∧ i' ≤ 50 ∧ rd (tp.drop i) i p st ib U = (some i', U'))) := by
          intro d
          induction d with
          | zero =>
            intro i1 n' M3 g hd hn' F h
            obtain ⟨n', rfl⟩ : ∃ z, n' = z + 1 := ⟨n' - 1, by omega⟩
            unfold lp_X10_readsItem_1
            rcases h with ⟨hg, p1, ib1, U1, c1, c2, c3, c4, c5, c6, c7, c8, c9, c10⟩ | ⟨hg, h⟩
            · have hT3 := hT.fr F (by decide) (by decide) (by decide)
              have ei : (tp[i1]?).getD 0 = 0 := by
                rw [List.getElem?_eq_none (by omega)]
                rfl
              rw [if_neg (by rw [hg]; decide), m_here hy hT3 c3 (by omega), ei]
              dsimp only [Option.bind]
              rw [if_neg (by decide)]
              obtain ⟨g2, M5, b1, b2, b3⟩ := ihn M3 i1 p1 (U.length :: st) ib1 U1 (by omega) (by rw [List.length_cons]; omega) (by rw [List.length_cons]; omega) c2 hT3 c3 c4 c5 c7 ⟨c9, fun x => by rw [ei] at x; exact absurd x (by decide), Or.inr (by simp)⟩
              rw [b1]
              dsimp only [lt_]
              rcases b3 with ⟨bg, i', p', ib', U', d1, d2, -⟩ | ⟨bg, i', U', d1, d2, d3⟩
              · omega
              · obtain ⟨n', rfl⟩ : ∃ z, n' = z + 1 := ⟨n' - 1, by omega⟩
                refine ⟨0, M5, ?_, F.trans b2, Or.inr ⟨rfl, i', U', d1, d2, c10.trans d3⟩⟩
                unfold lp_X10_readsItem_1
                rw [bg, if_pos rfl]
            · rw [if_pos hg]
              exact ⟨g, M3, rfl, F, Or.inr ⟨hg, h⟩⟩
          | succ d ihd =>
            intro i1 n' M3 g hd hn' F h
            obtain ⟨n', rfl⟩ : ∃ z, n' = z + 1 := ⟨n' - 1, by omega⟩
            unfold lp_X10_readsItem_1
            rcases h with ⟨hg, p1, ib1, U1, c1, c2, c3, c4, c5, c6, c7, c8, c9, c10⟩ | ⟨hg, h⟩
            · have hT3 := hT.fr F (by decide) (by decide) (by decide)
              rw [if_neg (by rw [hg]; decide), m_here hy hT3 c3 (by omega)]
              dsimp only [Option.bind]
              by_cases e41 : (tp[i1]?).getD 0 = 41
              · rw [if_pos e41]
                refine ⟨g, M3, rfl, F, Or.inl ⟨hg, i1, p1, ib1, U1, c1, ?_, c3, c4, c5, c6, c8, c10⟩⟩
                cases hx : tp[i1]? with
                | none => rw [hx] at e41; exact absurd e41 (by decide)
                | some x =>
                  rw [hx] at e41
                  have : x = 41 := e41
                  rw [this]
              · rw [if_neg e41]
                obtain ⟨g2, M5, b1, b2, b3⟩ := ihn M3 i1 p1 (U.length :: st) ib1 U1 (by omega) (by rw [List.length_cons]; omega) (by rw [List.length_cons]; omega) c2 hT3 c3 c4 c5 c7 ⟨c9, fun x => absurd x e41, Or.inr (by simp)⟩
                rw [b1]
                dsimp only [lt_]
                rcases b3 with ⟨bg, i', p', ib', U', d1, d2, d3, d4, d5, d6, d7, d8, d9, d10⟩ | ⟨bg, i', U', d1, d2, d3⟩
                · exact ihd i' n' M5 g2 (by omega) (by omega) (F.trans b2) (Or.inl ⟨bg, p', ib', U', by omega, d2, d3, d4, d5, by omega, d7, d8, d9, c10.trans d10⟩)
                · obtain ⟨n', rfl⟩ : ∃ z, n' = z + 1 := ⟨n' - 1, by omega⟩
                  refine ⟨0, M5, ?_, F.trans b2, Or.inr ⟨rfl, i', U', d1, d2, c10.trans d3⟩⟩
                  unfold lp_X10_readsItem_1
                  rw [bg, if_pos rfl]
            · rw [if_pos hg]
              exact ⟨g, M3, rfl, F, Or.inr ⟨hg, h⟩⟩
        have F3 : MF om [9] [16, 17, 18] M M3 := (F2.mono (by simp) (by simp)).trans a2
        have start : ∃ g' M4, lp_X10_readsItem_1 Y om (s_X10_readsItem Y n) j_fuel g1 M3 = some (g', M4) ∧ MF om [9] [16, 17, 18] M M4 ∧
              ((g' = 1 ∧ ∃ i2 p2 ib2 U2, i < i2 ∧ tp[i2]? = some 41 ∧ M4 om 16 = nI i2 ∧ M4 om 17 = nI (st.length + 1) ∧ OC M4 om U2 ∧ U.length ≤ U2.length ∧ ¬ p2 = 40 ∧ rd (tp.drop i) i p st ib U = rd (tp.drop i2) i2 p2 (U.length :: st) ib2 U2) ∨ (g' = 0 ∧ ∃ i' U', M4 om 16 = nI i' ∧ i' ≤ 50 ∧ rd (tp.drop i) i p st ib U = (some i', U'))) := by
          rcases a3 with ⟨bg, i', p', ib', U', d1, d2, d3, d4, d5, d6, d7, d8, d9, d10⟩ | ⟨bg, i', U', d1, d2, d3⟩
          · exact loop (tp.length - i') i' j_fuel M3 g1 (Nat.le_refl _) (by unfold j_fuel; omega) F3 (Or.inl ⟨bg, p', ib', U', by omega, d2, d3, d4, d5, d6, d7, d8, d9, hrd.trans d10⟩)
          · exact loop (tp.length - i) i j_fuel M3 g1 (Nat.le_refl _) (by unfold j_fuel; omega) F3 (Or.inr ⟨bg, i', U', d1, d2, hrd.trans d3⟩)
        obtain ⟨g', M4, s1, s2, s3⟩ := start
        rw [s1]
        dsimp only
        rcases s3 with ⟨hg, i2, p2, ib2, U2, c1, c2, c3, c4, c5, c6, c7, c8⟩ | ⟨hg, i', U', c1, c2, c3⟩
        · rw [if_neg (by rw [hg]; decide)]
          have hi2 := hlt' c2
          have f5 : MF om [] [16] M4 (j_up M4 om 16 (nI (i2 + 1))) := MF.uf
          have f6 : MF om [] [17] (j_up M4 om 16 (nI (i2 + 1))) (j_up (j_up M4 om 16 (nI (i2 + 1))) om 17 (nI st.length)) := MF.uf
          have F6 : MF om [] [16, 17] M4 (j_up (j_up M4 om 16 (nI (i2 + 1))) om 17 (nI st.length)) := (f5.mono (by simp) (by simp)).trans (f6.mono (by simp) (by simp))
          have G6 : MF om [9] [16, 17, 18] M (j_up (j_up M4 om 16 (nI (i2 + 1))) om 17 (nI st.length)) := s2.trans (F6.mono (by simp) (by simp))
          rw [c3, nI_1, f5.fld (by decide) (by decide), c4, nI_pd]
          dsimp only
          obtain ⟨M', b1, b2, i', p', ib', U', b3, b4, b5, b6, b7, b8, b9, b10, b11, b12⟩ := m_tail hy (hT.fr G6 (by decide) (by decide) (by decide)) (i := i2 + 1) (by omega) (by rw [f6.fld (by decide) (by decide), j_up_s]) (st := st) j_up_s (p := 41) (Or.inr rfl) (c5.fr F6 (by decide)) (ib := U.length) c6 (i0 := i) (by omega) (fr := min U.length 1999) rfl
          rw [hsz, b1]
          refine ⟨1, M', rfl, G6.trans b2, Or.inl ⟨rfl, i', p', ib', U', b3, b4, b5, b6, b7, by omega, b9, b10, b11, ?_⟩⟩
          have hok2 : rd_ok p2 41 (U.length :: st).length := by
            unfold rd_ok
            rw [if_neg (by decide), if_pos rfl]
            exact ⟨by rw [List.length_cons]; omega, c7⟩
          rw [c8, rd_step c2, if_pos hok2, if_neg (by decide), if_pos rfl]
          exact b12
        · rw [if_pos hg]
          exact ⟨0, M4, rfl, s2, Or.inr ⟨rfl, i', U', c1, c2, c3⟩⟩
      · have q3 : ¬ c = 40 ∨ M om 17 = (4 : Int32) := by
          by_cases x : c = 40
          · refine Or.inr ?_
            have : st.length = 4 := by
              have h44 : ¬ st.length < 4 := fun y => q2 ⟨x, y⟩
              omega
            rw [h17, this]
            rfl
          · exact Or.inl x
        rw [if_pos q3]
        refine ⟨0, M, rfl, MF.refl, Or.inr ⟨rfl, i, U, h16, by omega, ?_⟩⟩
        by_cases hil : i < tp.length
        · have hs : tp[i]? = some c := by
            rw [hc, List.getElem?_eq_getElem hil]
            rfl
          have hnok : ¬ rd_ok p c st.length := by
            unfold rd_ok
            by_cases x1 : c = 40
            · rw [if_pos x1]
              exact fun y => q2 ⟨x1, y⟩
            · rw [if_neg x1]
              by_cases x2 : c = 41
              · rw [if_pos x2]
                rintro ⟨y1, y2⟩
                rcases r2 x2 with z | z
                · rw [z] at y1
                  exact absurd y1 (by decide)
                · exact y2 z
              · rw [if_neg x2]
                by_cases x3 : rd_D c
                · rw [if_pos x3]
                  exact fun y => r1 y x3
                · rw [if_neg x3]
                  exact q1
          rw [rd_step hs, if_neg hnok]
        · rw [List.drop_eq_nil_of_le (by omega)]
          have hst0 : st ≠ [] := r3.elim (fun x => absurd x hil) id
          unfold rd
          rw [if_neg hst0]
theorem m_read_loop (hy : MdAt Y om) : ∀ (d i n : Nat) (M : JM) (p : Int32) (ib : Nat) (U : List Int32), tp.length - i ≤ d → d + 1 < n → i ≤ tp.length → TP M om tp → M om 16 = nI i → M om 17 = nI 0 → OC M om U → ib ≤ U.length → ¬ p = 40 → (rd_L p ∨ p = 41 → ¬ rd_D ((tp[i]?).getD 0)) →
    ∃ g M', lp_X10_readDocument_1 Y om n 1 M = some (g, M') ∧ MF om [9] [16, 17, 18] M M' ∧ ((g = 1 ∧ (rd (tp.drop i) i p [] ib U).1 = none ∧ OC M' om (rd (tp.drop i) i p [] ib U).2) ∨ (g = 0 ∧ ∃ i' U', M' om 16 = nI i' ∧ i' ≤ 50 ∧ rd (tp.drop i) i p [] ib U = (some i', U'))) := by
  intro d
  induction d with
  | zero =>
    intro i n M p ib U hd hn hi hT h16 h17 hU hib hp hq
    obtain ⟨n, rfl⟩ : ∃ z, n = z + 1 := ⟨n - 1, by omega⟩
    have t2 := hT.2.1
    refine ⟨1, M, ?_, MF.refl, Or.inl ⟨rfl, ?_⟩⟩
    · unfold lp_X10_readDocument_1
      rw [hT.1, h16, if_pos (Or.inr (nI_le (by omega) (by omega)))]
    · rw [List.drop_eq_nil_of_le (by omega)]
      exact ⟨rfl, hU⟩
  | succ d ih =>
    intro i n M p ib U hd hn hi hT h16 h17 hU hib hp hq
    obtain ⟨n, rfl⟩ : ∃ z, n = z + 1 := ⟨n - 1, by omega⟩
    have t2 := hT.2.1
    by_cases c : i = tp.length
    · refine ⟨1, M, ?_, MF.refl, Or.inl ⟨rfl, ?_⟩⟩
      · unfold lp_X10_readDocument_1
        rw [hT.1, h16, if_pos (Or.inr (nI_le (by omega) (by omega)))]
      · rw [List.drop_eq_nil_of_le (by omega)]
        exact ⟨rfl, hU⟩
    · obtain ⟨g, M1, a1, a2, a3⟩ := m_reads hy 5 M i p [] ib U (by decide) (by decide) (by decide) hi hT h16 h17 hU hib ⟨hq, fun _ => Or.inl rfl, Or.inl (by omega)⟩
      have e : lp_X10_readDocument_1 Y om (n + 1) 1 M = lp_X10_readDocument_1 Y om n g M1 := by
        conv => lhs; unfold lp_X10_readDocument_1
        rw [hT.1, h16, if_neg (by rintro (x | x); exact absurd x (by decide); exact nI_ge (by omega) (by omega) x), a1]
        rfl
      rw [e]
      rcases a3 with ⟨bg, i', p', ib', U', d1, d2, d3, d4, d5, d6, d7, d8, d9, d10⟩ | ⟨bg, i', U', d1, d2, d3⟩
      · rw [bg, d10]
        obtain ⟨g', M', b1, b2, b3⟩ := ih i' n M1 p' ib' U' (by omega) (by omega) d2 (hT.fr a2 (by decide) (by decide) (by decide)) d3 d4 d5 d7 d8 d9
        exact ⟨g', M', b1, a2.trans b2, b3⟩
      · rw [bg]
        obtain ⟨n, rfl⟩ : ∃ z, n = z + 1 := ⟨n - 1, by omega⟩
        refine ⟨0, M1, ?_, a2, Or.inr ⟨rfl, i', U', d1, d2, d3⟩⟩
        unfold lp_X10_readDocument_1
        rw [if_pos (Or.inl rfl)]
theorem m_readDocument (hy : MdAt Y om) {ds : Nat → List Int32} {ks : List (Nat × List Int32)} (hD : DM M om ds) (hH : HM M om ks) (hT : TP M om tp) {r : Nat} (hr : r < 4) :
    ∃ M', MF om [1, 2, 4, 5, 6, 9] [0, 6, 10, 16, 17, 18] M M' ∧ TP M' om [] ∧
      ((∃ e, (rd tp 0 (-1) [] 0 []).1 = some e ∧ s_X10_readDocument Y M om (nI r) = some ((-100 : Int32) - nI e, M') ∧ M' om 0 = 0 ∧ DM M' om ds ∧ HM M' om ks) ∨
       ((rd tp 0 (-1) [] 0 []).1 = none ∧ 24 < (rd tp 0 (-1) [] 0 []).2.length ∧ s_X10_readDocument Y M om (nI r) = some (0, M') ∧ M' om 0 = 2 ∧ DM M' om ds ∧ HM M' om ks) ∨
       ((rd tp 0 (-1) [] 0 []).1 = none ∧ (rd tp 0 (-1) [] 0 []).2.length ≤ 24 ∧ s_X10_readDocument Y M om (nI r) = some (nI (rd tp 0 (-1) [] 0 []).2.length, M') ∧ M' om 0 = 0 ∧ DM M' om (f_up ds r (rd tp 0 (-1) [] 0 []).2) ∧ HM M' om (((r, ds r) :: ks).take 8))) := by
  have e15 : j_rf Y om 15 = om + 9 := (hy (15, 9, 2000) (by decide)).1
  have l15 : j_ln Y (om + 9) = 2000 := (hy (15, 9, 2000) (by decide)).2
  have f1 : MF om [] [16] M (j_up M om 16 0) := MF.uf
  have f2 : MF om [] [17] (j_up M om 16 0) (j_up (j_up M om 16 0) om 17 0) := MF.uf
  have f3 : MF om [] [18] (j_up (j_up M om 16 0) om 17 0) (j_up (j_up (j_up M om 16 0) om 17 0) om 18 0) := MF.uf
  have F3 : MF om [] [16, 17, 18] M (j_up (j_up (j_up M om 16 0) om 17 0) om 18 0) := ((f1.mono (by simp) (by simp)).trans (f2.mono (by simp) (by simp))).trans (f3.mono (by simp) (by simp))
  obtain ⟨g, M4, a1, a2, a3⟩ := m_read_loop hy tp.length 0 j_fuel (j_up (j_up (j_up M om 16 0) om 17 0) om 18 0) (-1) 0 [] (by omega) (by have := hT.2.1; unfold j_fuel; omega) (Nat.zero_le _) (hT.fr F3 (by decide) (by decide) (by decide)) (by rw [f3.fld (by decide) (by decide), f2.fld (by decide) (by decide), j_up_s]; rfl) (by rw [f3.fld (by decide) (by decide), j_up_s]; rfl) ⟨by rw [j_up_s]; rfl, fun i hi => absurd hi (Nat.not_lt_zero _)⟩ (Nat.le_refl _) (by decide) (fun x => absurd x (by decide))
  rw [List.drop_zero] at a3
  have f5 : MF om [] [6] M4 (j_up M4 om 6 0) := MF.uf
  have F5 : MF om [9] [6, 16, 17, 18] M (j_up M4 om 6 0) := ((F3.mono (by simp) (by simp)).trans (a2.mono (by simp) (by simp))).trans (f5.mono (by simp) (by simp))
  have hTP : ∀ {N : JM}, N om 6 = 0 → TP N om [] := fun h => ⟨h, by decide, fun i hi => absurd hi (Nat.not_lt_zero _)⟩
  have pre : s_X10_readDocument Y M om (nI r) = (if g = 0 then (lt_ (s_X10_done Y (j_up M4 om 6 0) om ((-100 : Int32) - ((j_up M4 om 6 0) om 16))) fun xx21 => some (xx21.1, xx21.2)) else (if ((j_up M4 om 6 0) om 18) ≤ (24 : Int32) then ((s_X10_remembers Y (j_up M4 om 6 0) om (nI r)).bind fun xx23 => (s_X10_holds Y xx23 om (nI r) (om + 9) (xx23 om 18)).bind fun xx25 => lt_ (s_X10_done Y xx25 om (xx25 om 18)) fun xx26 => some (xx26.1, xx26.2)) else (lt_ (s_X10_fails Y (j_up M4 om 6 0) om (2 : Int32)) fun xx27 => some (xx27.1, xx27.2)))) := by
    unfold s_X10_readDocument
    rw [if_neg (m_isRegT hr)]
    dsimp only [lt_]
    rw [a1, e15]
    rfl
  rcases a3 with ⟨hg, h1, h2⟩ | ⟨hg, e, U', h1, h2, h3⟩
  · have h2' := h2.fr f5 (by decide)
    have hsz := h2'.sz
    by_cases c : (rd tp 0 (-1) [] 0 []).2.length ≤ 24
    · have hU : OT (j_up M4 om 6 0) om (rd tp 0 (-1) [] 0 []).2 := by
        have := h2'
        unfold OC at this
        rw [List.take_of_length_le (by omega)] at this
        exact this
      have hD5 : DM (j_up M4 om 6 0) om ds := hD.eq (F5.arr (t := 1) (by decide) (by decide)) (F5.arr (t := 2) (by decide) (by decide))
      obtain ⟨M6, b1, b2, b3⟩ := m_remembers hy (hH.fr F5 (by decide) (by decide) (by decide)) hr (hD5.dr hr)
      have hD6 : DM M6 om ds := hD5.eq (b2.arr (t := 1) (by decide) (by decide)) (b2.arr (t := 2) (by decide) (by decide))
      have o18 : M6 om 18 = nI (rd tp 0 (-1) [] 0 []).2.length := by rw [b2.fld (by decide) (by decide)]; exact hU.1
      obtain ⟨M7, c1, c2, c3⟩ := m_holds hy hr (tq := 9) (by decide) l15 (by decide) (xs := (rd tp 0 (-1) [] 0 []).2) (by omega) c (hU.2.eq (b2.arr (t := 9) (by decide) (by decide))) hD6
      have f8 : MF om [] [0] M7 (j_up M7 om 0 0) := MF.uf
      have F8 : MF om [1, 2, 4, 5, 6] [0, 10] (j_up M4 om 6 0) (j_up M7 om 0 0) := ((b2.mono (by simp) (by simp)).trans (c2.mono (by simp) (by simp))).trans (f8.mono (by simp) (by simp))
      refine ⟨j_up M7 om 0 0, (F5.mono (by simp) (by simp)).trans (F8.mono (by simp) (by simp)), hTP (by rw [F8.fld (by decide) (by decide), j_up_s]), Or.inr (Or.inr ⟨h1, c, ?_, j_up_s, c3.eq (f8.arr (t := 1) (by decide) (by decide)) (f8.arr (t := 2) (by decide) (by decide)), (b3.fr c2 (by decide) (by decide) (by decide)).fr f8 (by decide) (by decide) (by decide)⟩)⟩
      rw [pre, hg, if_neg (by decide), hU.1, if_pos (by rw [show (24 : Int32) = nI 24 from rfl]; exact nI_le c (by omega)), b1]
      dsimp only [Option.bind, lt_]
      rw [o18, c1]
      dsimp only
      rw [c2.fld (by decide) (by decide), o18]
      rfl
    · have f6 : MF om [] [0] (j_up M4 om 6 0) (j_up (j_up M4 om 6 0) om 0 2) := MF.uf
      have F6 : MF om [9] [0, 6, 16, 17, 18] M (j_up (j_up M4 om 6 0) om 0 2) := (F5.mono (by simp) (by simp)).trans (f6.mono (by simp) (by simp))
      refine ⟨_, F6.mono (by simp) (by simp), hTP (by rw [f6.fld (by decide) (by decide), j_up_s]), Or.inr (Or.inl ⟨h1, by omega, ?_, j_up_s, hD.eq (F6.arr (t := 1) (by decide) (by decide)) (F6.arr (t := 2) (by decide) (by decide)), hH.fr F6 (by decide) (by decide) (by decide)⟩)⟩
      rw [pre, hg, if_neg (by decide), hsz, if_neg (by rw [show (24 : Int32) = nI 24 from rfl]; exact nI_ge (by omega) (by omega))]
      rfl
  · have f6 : MF om [] [0] (j_up M4 om 6 0) (j_up (j_up M4 om 6 0) om 0 0) := MF.uf
    have F6 : MF om [9] [0, 6, 16, 17, 18] M (j_up (j_up M4 om 6 0) om 0 0) := (F5.mono (by simp) (by simp)).trans (f6.mono (by simp) (by simp))
    refine ⟨_, F6.mono (by simp) (by simp), hTP (by rw [f6.fld (by decide) (by decide), j_up_s]), Or.inl ⟨e, by rw [h3], ?_, j_up_s, hD.eq (F6.arr (t := 1) (by decide) (by decide)) (F6.arr (t := 2) (by decide) (by decide)), hH.fr F6 (by decide) (by decide) (by decide)⟩⟩
    rw [pre, hg, if_pos rfl, f5.fld (by decide) (by decide), h1]
    rfl
theorem m_feed (hy : MdAt Y om) (hT : TP M om tp) (hl : tp.length < 50) {c : Int32} (hc : vp_nar .char c = c) :
    ∃ M', s_X10_feed Y M om c = some (nI (tp.length + 1), M') ∧ MF om [3] [0, 6] M M' ∧ M' om 0 = 0 ∧ TP M' om (tp ++ [c]) := by
  have e5 : j_rf Y om 5 = om + 3 := (hy (5, 3, 50) (by decide)).1
  have l5 : j_ln Y (om + 3) = 50 := (hy (5, 3, 50) (by decide)).2
  obtain ⟨t1, t2, t3⟩ := hT
  have f1 : MF om [3] [] M (j_up M (om + 3) tp.length c) := MF.ua
  have f2 : MF om [] [6] (j_up M (om + 3) tp.length c) (j_up (j_up M (om + 3) tp.length c) om 6 (nI (tp.length + 1))) := MF.uf
  have f3 : MF om [] [0] (j_up (j_up M (om + 3) tp.length c) om 6 (nI (tp.length + 1))) (j_up (j_up (j_up M (om + 3) tp.length c) om 6 (nI (tp.length + 1))) om 0 0) := MF.uf
  have f23 : MF om [] [0, 6] (j_up M (om + 3) tp.length c) (j_up (j_up (j_up M (om + 3) tp.length c) om 6 (nI (tp.length + 1))) om 0 0) := (f2.mono (by simp) (by simp)).trans (f3.mono (by simp) (by simp))
  have e50 : ¬ nI tp.length = (50 : Int32) := fun x => by
    have := (nI_eq (b := 50) (by omega) (by omega)).mp x
    omega
  refine ⟨_, ?_, (f1.mono (by simp) (by simp)).trans (f23.mono (by simp) (by simp)), j_up_s, ?_, ?_, ?_⟩
  · unfold s_X10_feed
    rw [t1, if_neg e50, e5, l5, if_pos (j_g_nI hl (by omega)), nI_clamp (by omega), hc]
    dsimp only [lt_]
    rw [f1.fld (by decide) (by decide), t1, nI_1]
    unfold s_X10_done
    dsimp only [lt_]
    rw [j_up_s]
  · rw [f3.fld (by decide) (by decide), j_up_s, List.length_append]
    rfl
  · rw [List.length_append, List.length_singleton]
    omega
  · exact t3.app.eq (f23.arr (t := 3) (by decide) (by decide))
end INM

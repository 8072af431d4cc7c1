/-! ===== pure: reading the input; the class ===== -/
abbrev rd_L (c : Int32) : Prop := ¬ (c < 97 ∨ (122 : Int32) < c)
abbrev rd_D (c : Int32) : Prop := ¬ (c < 50 ∨ (57 : Int32) < c)
abbrev rd_ok (p c : Int32) (d : Nat) : Prop := if c = 40 then d < 4 else if c = 41 then 0 < d ∧ ¬ p = 40 else if rd_D c then rd_L p ∨ p = 41 else rd_L c
def rd_rep (S : List Int32) : Nat → List Int32
  | 0 => []
  | m + 1 => S ++ rd_rep S m
theorem rd_rep_len {S : List Int32} : ∀ m, (rd_rep S m).length = m * S.length := by
  intro m
  induction m with
  | zero => simp [rd_rep]
  | succ m ih =>
    show (S ++ rd_rep S m).length = _
    rw [List.length_append, ih, Nat.succ_mul, Nat.add_comm]
theorem rd_rep_snoc {S : List Int32} : ∀ m, rd_rep S (m + 1) = rd_rep S m ++ S := by
  intro m
  induction m with
  | zero => simp [rd_rep]
  | succ m ih =>
    show S ++ rd_rep S (m + 1) = (S ++ rd_rep S m) ++ S
    rw [ih, List.append_assoc]
/-- how often a figure lets an item stand, less one -/
def rd_t (c : Int32) : Nat := (c - 48).toNatClampNeg - 1
def rd : List Int32 → Nat → Int32 → List Nat → Nat → List Int32 → Option Nat × List Int32
  | [], i, _, st, _, U => (if st = [] then none else some i, U)
  | c :: cs, i, p, st, ib, U =>
    if rd_ok p c st.length then
      (if c = 40 then rd cs (i + 1) c (U.length :: st) ib U
      else if c = 41 then rd cs (i + 1) c st.tail ((st.head?).getD 0) U
      else if rd_L c then rd cs (i + 1) c st U.length (U ++ [c - 97])
      else rd cs (i + 1) c st ib (U ++ rd_rep (U.drop ib) (rd_t c)))
    else (some i, U)
theorem rd_len : ∀ (cs : List Int32) (i : Nat) (p : Int32) (st : List Nat) (ib : Nat) (U : List Int32), U.length ≤ (rd cs i p st ib U).2.length := by
  intro cs
  induction cs with
  | nil => intro i p st ib U; exact Nat.le_refl _
  | cons c cs ih =>
    intro i p st ib U
    unfold rd
    split
    · split
      · exact ih _ _ _ _ _
      · split
        · exact ih _ _ _ _ _
        · split
          · refine Nat.le_trans ?_ (ih _ _ _ _ _)
            rw [List.length_append]
            omega
          · refine Nat.le_trans ?_ (ih _ _ _ _ _)
            rw [List.length_append]
            omega
    · exact Nat.le_refl _
theorem rd_bound : ∀ (cs : List Int32) (i : Nat) (p : Int32) (st : List Nat) (ib : Nat) (U : List Int32) (e : Nat), (rd cs i p st ib U).1 = some e → i ≤ e ∧ e ≤ i + cs.length := by
  intro cs
  induction cs with
  | nil =>
    intro i p st ib U e h
    unfold rd at h
    by_cases q : st = []
    · rw [if_pos q] at h
      exact absurd h (by simp)
    · rw [if_neg q] at h
      have := Option.some.inj h
      simp
      omega
  | cons c cs ih =>
    intro i p st ib U e h
    unfold rd at h
    rw [List.length_cons]
    split at h
    · split at h
      · have := ih _ _ _ _ _ _ h; omega
      · split at h
        · have := ih _ _ _ _ _ _ h; omega
        · split at h
          · have := ih _ _ _ _ _ _ h; omega
          · have := ih _ _ _ _ _ _ h; omega
    · have := Option.some.inj h
      omega
def InAt (Y : JY) (o : Nat) : Prop := (j_rf Y o 0 = o + 1 ∧ LnAt Y (o + 1) 50) ∧ (j_rf Y o 1 = o + 3 ∧ LnAt Y (o + 3) 4)
section INC
variable {Y : JY} {M : JM} {o : Nat} {tp : List Int32}
theorem p_isLetter {c : Int32} : s_X3_isLetter Y M c = 0 ↔ ¬ rd_L c := by
  unfold s_X3_isLetter
  by_cases q : c < 97 ∨ (122 : Int32) < c
  · rw [if_pos q]
    exact ⟨fun _ h => h q, fun _ => rfl⟩
  · rw [if_neg q]
    exact ⟨fun h => absurd h (by decide), fun h => absurd q h⟩
theorem p_isDigit {c : Int32} : s_X3_isDigit Y M c = 0 ↔ ¬ rd_D c := by
  unfold s_X3_isDigit
  by_cases q : c < 50 ∨ (57 : Int32) < c
  · rw [if_pos q]
    exact ⟨fun _ h => h q, fun _ => rfl⟩
  · rw [if_neg q]
    exact ⟨fun h => absurd h (by decide), fun h => absurd q h⟩
theorem p_mayFollow {p c : Int32} {d : Nat} (hd : d ≤ 100) : s_X3_mayFollow Y M p c (nI d) = 0 ↔ ¬ rd_ok p c d := by
  unfold s_X3_mayFollow rd_ok
  by_cases q1 : c = 40
  · rw [if_pos q1, if_pos q1]
    by_cases q : 4 ≤ d
    · rw [if_pos (by rw [show (4 : Int32) = nI 4 from rfl]; exact nI_le q (by omega))]
      exact ⟨fun _ => by omega, fun _ => rfl⟩
    · rw [if_neg (by rw [show (4 : Int32) = nI 4 from rfl]; exact nI_ge (by omega) (by omega))]
      exact ⟨fun h => absurd h (by decide), fun h => by omega⟩
  · rw [if_neg q1, if_neg q1]
    by_cases q2 : c = 41
    · rw [if_pos q2, if_pos q2]
      by_cases q : d = 0
      · rw [if_pos (Or.inl (by rw [q]; decide))]
        exact ⟨fun _ => by omega, fun _ => rfl⟩
      · have e0 : ¬ nI d ≤ 0 := nI_nle (by omega) (by omega)
        by_cases q3 : p = 40
        · rw [if_pos (Or.inr q3)]
          exact ⟨fun _ c => c.2 q3, fun _ => rfl⟩
        · rw [if_neg (by rintro (c | c); exact e0 c; exact q3 c)]
          exact ⟨fun h => absurd h (by decide), fun h => absurd ⟨by omega, q3⟩ h⟩
    · rw [if_neg q2, if_neg q2]
      by_cases q3 : rd_D c
      · rw [if_neg (fun h => p_isDigit.mp h q3), if_pos q3]
        by_cases q4 : rd_L p ∨ p = 41
        · have : ¬ s_X3_isLetter Y M p = 0 ∨ p = 41 := q4.imp (fun h c => p_isLetter.mp c h) id
          rw [if_pos this]
          exact ⟨fun h => absurd h (by decide), fun h => absurd q4 h⟩
        · have : ¬ (¬ s_X3_isLetter Y M p = 0 ∨ p = 41) := by
            rintro (c | c)
            · exact c (p_isLetter.mpr (fun h => q4 (Or.inl h)))
            · exact q4 (Or.inr c)
          rw [if_neg this]
          exact ⟨fun _ => q4, fun _ => rfl⟩
      · rw [if_pos (p_isDigit.mpr q3), if_neg q3]
        exact p_isLetter
theorem rd_open {cs : List Int32} {c : Int32} {i ib : Nat} {p : Int32} {st : List Nat} {U : List Int32} (h : rd_ok p c st.length) : ∃ st' ib' U', rd (c :: cs) i p st ib U = rd cs (i + 1) c st' ib' U' ∧ (st'.length = if c = 40 then st.length + 1 else if c = 41 then st.length - 1 else st.length) := by
  conv => enter [1, st', 1, ib', 1, U', 1, 1]; unfold rd
  rw [if_pos h]
  by_cases q1 : c = 40
  · rw [if_pos q1, if_pos q1]
    exact ⟨_, _, _, rfl, rfl⟩
  · rw [if_neg q1, if_neg q1]
    by_cases q2 : c = 41
    · rw [if_pos q2, if_pos q2]
      exact ⟨_, _, _, rfl, List.length_tail⟩
    · rw [if_neg q2, if_neg q2]
      split
      · exact ⟨_, _, _, rfl, rfl⟩
      · exact ⟨_, _, _, rfl, rfl⟩
theorem p_error_loop (hy : InAt Y o) (h : LN M (o + 1) 50 tp) : ∀ (d i n : Nat) (p : Int32) (st : List Nat) (ib : Nat) (U : List Int32), tp.length = i + d → d < n → st.length ≤ 4 →
    ∃ v, lp_X3_errorPosition_1 Y M o n (nI st.length) p (nI i) = some v ∧ (match v with | Sum.inl x => (if x ≤ 0 then (some (-1 : Int32)) else (some (nI tp.length))) | Sum.inr x => (some x)) = some (oI (rd (tp.drop i) i p st ib U).1) := by
  have h9 := h.2.1
  obtain ⟨⟨y0, z0⟩, -⟩ := hy
  intro d
  induction d with
  | zero =>
    intro i n p st ib U hi hn hs
    obtain ⟨n, rfl⟩ : ∃ z, n = z + 1 := ⟨n - 1, by omega⟩
    refine ⟨Sum.inl (nI st.length), ?_, ?_⟩
    · unfold lp_X3_errorPosition_1
      rw [y0, p_size h, if_pos (nI_le (by omega) (by omega))]
    · rw [List.drop_eq_nil_of_le (by omega)]
      unfold rd
      dsimp only
      by_cases q : st = []
      · rw [q, if_pos (by decide), if_pos rfl]
        rfl
      · have hl : 0 < st.length := List.length_pos_iff.mpr q
        rw [if_neg (nI_nle hl (by omega)), if_neg q, show tp.length = i by omega]
        rfl
  | succ d ih =>
    intro i n p st ib U hi hn hs
    obtain ⟨n, rfl⟩ : ∃ z, n = z + 1 := ⟨n - 1, by omega⟩
    have hil : i < tp.length := by omega
    have e := List.drop_eq_getElem_cons hil
    obtain ⟨c, hc⟩ : ∃ z, z = tp[i] := ⟨_, rfl⟩
    have hat : l_at tp (nI i) = c := by rw [l_at_lt (by omega) hil, hc]
    rw [← hc] at e
    rw [e]
    unfold lp_X3_errorPosition_1
    rw [y0, p_size h, if_neg (nI_ge (by omega) (by omega)), p_at z0 h, hat]
    dsimp only [lt_]
    by_cases q : rd_ok p c st.length
    · rw [if_neg (fun e => (p_mayFollow (by omega)).mp e q)]
      obtain ⟨st', ib', U', g1, g2⟩ := rd_open (cs := tp.drop (i + 1)) (i := i) (ib := ib) (U := U) q
      have e9 : (if c = 40 then nI st.length + 1 else if c = 41 then nI st.length + -1 else nI st.length) = nI st'.length := by
        rw [g2]
        by_cases q1 : c = 40
        · rw [if_pos q1, if_pos q1, nI_1]
        · rw [if_neg q1, if_neg q1]
          by_cases q2 : c = 41
          · unfold rd_ok at q
            rw [if_neg q1, if_pos q2] at q
            rw [if_pos q2, if_pos q2, show st.length = (st.length - 1) + 1 by omega, nI_dec]
            rfl
          · rw [if_neg q2, if_neg q2]
      have hs' : st'.length ≤ 4 := by
        rw [g2]
        by_cases q1 : c = 40
        · unfold rd_ok at q
          rw [if_pos q1] at q ⊢
          omega
        · rw [if_neg q1]
          split <;> omega
      rw [e9, g1, nI_1]
      exact ih (i + 1) n c st' ib' U' (by omega) (by omega) hs'
    · rw [if_pos ((p_mayFollow (by omega)).mpr q)]
      refine ⟨_, rfl, ?_⟩
      unfold rd
      rw [if_neg q]
      rfl
theorem p_errorPosition (hy : InAt Y o) (h : LN M (o + 1) 50 tp) : s_X3_errorPosition Y M o = some (oI (rd tp 0 (-1) [] 0 []).1) := by
  have h9 := h.2.1
  obtain ⟨v, a1, a2⟩ := p_error_loop hy h tp.length 0 j_fuel (-1) [] 0 [] (by omega) (j_fuel_gt (by omega)) (by decide)
  unfold s_X3_errorPosition
  rw [nI_0] at a1
  have a3 : lp_X3_errorPosition_1 Y M o j_fuel 0 (-1) 0 = some v := a1
  rw [a3, hy.1.1, p_size h]
  exact a2
theorem l_seg_drop {U : List Int32} {b : Nat} : l_seg U b U.length = U.drop b := by
  unfold l_seg
  rw [List.take_of_length_le]
  rw [List.length_drop]
  exact Nat.le_refl _
theorem p_repeatEnd {q : Nat} {U : List Int32} (hyq : LnAt Y q 24) (h : LN M q 24 U) {ib t : Nat} (hib : ib ≤ U.length) (ht : 1 ≤ t ∧ t ≤ 100) :
    ∃ M', s_X3_repeatEnd Y M q (nI ib) (nI t) = some (if (U ++ rd_rep (U.drop ib) (t - 1)).length ≤ 24 then 1 else 0, M') ∧ JFr q (q + 2) M M' ∧ ((U ++ rd_rep (U.drop ib) (t - 1)).length ≤ 24 → LN M' q 24 (U ++ rd_rep (U.drop ib) (t - 1))) ∧ ∃ V, LN M' q 24 V := by
  have h24 := h.2.1
  have hlen : (U ++ rd_rep (U.drop ib) (t - 1)).length = ib + (U.length - ib) * t := by
    rw [List.length_append, rd_rep_len, List.length_drop]
    obtain ⟨s, rfl⟩ : ∃ s, t = s + 1 := ⟨t - 1, by omega⟩
    rw [Nat.add_sub_cancel, Nat.mul_succ, Nat.mul_comm]
    omega
  have loop : ∀ (d k n : Nat) (M : JM), t = k + d → 1 ≤ k → d < n → (U ++ rd_rep (U.drop ib) (t - 1)).length ≤ 24 → LN M q 24 (U ++ rd_rep (U.drop ib) (k - 1)) →
      ∃ M', lp_X3_repeatEnd_1 Y (nI t) q (nI ib) (nI U.length) n (nI k) M = some (1, M') ∧ JFr q (q + 2) M M' ∧ LN M' q 24 (U ++ rd_rep (U.drop ib) (t - 1)) := by
    intro d
    induction d with
    | zero =>
      intro k n M hk hk1 hn hl hL
      obtain ⟨n, rfl⟩ : ∃ z, n = z + 1 := ⟨n - 1, by omega⟩
      refine ⟨M, ?_, JFr.refl, by rw [show t = k by omega]; exact hL⟩
      unfold lp_X3_repeatEnd_1
      rw [if_pos (nI_le (by omega) (by omega))]
    | succ d ih =>
      intro k n M hk hk1 hn hl hL
      obtain ⟨n, rfl⟩ : ∃ z, n = z + 1 := ⟨n - 1, by omega⟩
      have hlk : (U ++ rd_rep (U.drop ib) (k - 1)).length + (U.length - ib) ≤ 24 := by
        refine Nat.le_trans ?_ hl
        rw [List.length_append, List.length_append, rd_rep_len, rd_rep_len, List.length_drop]
        have h1 : (k - 1 + 1) * (U.length - ib) ≤ (t - 1) * (U.length - ib) := Nat.mul_le_mul_right _ (by omega)
        rw [Nat.succ_mul] at h1
        omega
      obtain ⟨M1, a1, a2, a3⟩ := p_pushPart_self hyq hL (b := ib) (e := U.length) hib (by rw [List.length_append]; omega) hlk
      have hsg : l_seg (U ++ rd_rep (U.drop ib) (k - 1)) ib U.length = U.drop ib := by
        unfold l_seg
        rw [List.drop_append_of_le_length hib, List.take_append_of_le_length (by rw [List.length_drop]; exact Nat.le_refl _), List.take_of_length_le (by rw [List.length_drop]; exact Nat.le_refl _)]
      rw [hsg, List.append_assoc, ← rd_rep_snoc, show k - 1 + 1 = k + 1 - 1 by omega] at a3
      obtain ⟨M', b1, b2, b3⟩ := ih (k + 1) n M1 (by omega) (by omega) (by omega) hl a3
      refine ⟨M', ?_, a2.trans b2, b3⟩
      unfold lp_X3_repeatEnd_1
      rw [if_neg (nI_ge (by omega) (by omega)), a1]
      dsimp only [Option.bind, lt_]
      rw [nI_1]
      exact b1
  have hmul : (U.length - ib) * t ≤ 24 * 100 := Nat.mul_le_mul (by omega) ht.2
  unfold s_X3_repeatEnd
  rw [p_size h]
  dsimp only [lt_]
  rw [nI_sb hib, nI_mul, nI_add]
  rw [hlen]
  by_cases c : ib + (U.length - ib) * t ≤ 24
  · rw [if_pos (by rw [show (24 : Int32) = nI 24 from rfl]; exact nI_le c (by omega)), if_pos c]
    obtain ⟨M', a1, a2, a3⟩ := loop (t - 1) 1 j_fuel M (by omega) (Nat.le_refl _) (j_fuel_gt (by omega)) (by rw [hlen]; exact c) (by
      show LN M q 24 (U ++ [])
      rw [List.append_nil]
      exact h)
    rw [show nI 1 = (1 : Int32) from rfl] at a1
    rw [a1]
    exact ⟨M', rfl, a2, fun _ => a3, _, a3⟩
  · rw [if_neg (by rw [show (24 : Int32) = nI 24 from rfl]; exact nI_ge (by omega) (by omega)), if_neg c]
    exact ⟨M, rfl, JFr.refl, fun h => absurd h c, U, h⟩
theorem rd_t_D {c : Int32} (h : rd_D c) : ∃ k : Nat, 2 ≤ k ∧ k ≤ 9 ∧ c - 48 = nI k ∧ rd_t c = k - 1 := by
  have h1 : ¬ c < 50 := fun x => h (Or.inl x)
  have h2 : ¬ (57 : Int32) < c := fun x => h (Or.inr x)
  have h3 : ¬ c < 0 := by
    rw [Int32.lt_iff_toInt_lt] at h1 ⊢
    have : (50 : Int32).toInt = 50 := by decide
    have : (0 : Int32).toInt = 0 := by decide
    omega
  obtain ⟨k, hk, rfl⟩ := nI_of h3
  rw [show (50 : Int32) = nI 50 from rfl, nI_ltI hk (by omega)] at h1
  rw [show (57 : Int32) = nI 57 from rfl, nI_ltI (by omega) hk] at h2
  refine ⟨k - 48, by omega, by omega, ?_, ?_⟩
  · rw [show (48 : Int32) = nI 48 from rfl, nI_sb (by omega)]
  · unfold rd_t
    rw [show (48 : Int32) = nI 48 from rfl, nI_sb (by omega), nI_clamp (by omega)]
theorem l_del_last {xs : List Int32} {b : Int32} : l_del (xs ++ [b]) xs.length = xs := by
  unfold l_del
  rw [List.take_append_of_le_length (Nat.le_refl _), List.take_length, List.drop_eq_nil_of_le (by simp), List.append_nil]
theorem p_expand_loop (hy : InAt Y o) {q : Nat} (hyq : LnAt Y q 24) (hd : q + 2 ≤ o ∨ o + 5 ≤ q) : ∀ (d i n : Nat) (p : Int32) (st : List Nat) (ib : Nat) (U : List Int32) (M : JM), tp.length = i + d → d < n → st.length ≤ 4 → U.length ≤ 24 → ib ≤ U.length → (∀ b ∈ st, b ≤ U.length) →
    LN M (o + 1) 50 tp → LN M (o + 3) 4 (st.reverse.map nI) → LN M q 24 U → (rd (tp.drop i) i p st ib U).1 = none →
    ∃ M', lp_X3_expandInto_1 Y o q n (nI ib) (nI i) M = some (if (rd (tp.drop i) i p st ib U).2.length ≤ 24 then 1 else 0, M') ∧ (∀ a, (a < o + 3 ∨ o + 5 ≤ a) ∧ (a < q ∨ q + 2 ≤ a) → M' a = M a) ∧ ((rd (tp.drop i) i p st ib U).2.length ≤ 24 → LN M' q 24 (rd (tp.drop i) i p st ib U).2) ∧ ∃ V, LN M' q 24 V := by
  have hy' := hy
  obtain ⟨⟨y0, z0⟩, ⟨y1, z1⟩⟩ := hy
  intro d
  induction d with
  | zero =>
    intro i n p st ib U M hi hn hs hU hib hst hT hG hQ hno
    obtain ⟨n, rfl⟩ : ∃ z, n = z + 1 := ⟨n - 1, by omega⟩
    have h9 := hT.2.1
    rw [List.drop_eq_nil_of_le (by omega)] at hno ⊢
    show ∃ M', _ = some (if U.length ≤ 24 then 1 else 0, M') ∧ _ ∧ (U.length ≤ 24 → LN M' q 24 U) ∧ _
    refine ⟨M, ?_, fun a _ => rfl, fun _ => hQ, U, hQ⟩
    unfold lp_X3_expandInto_1
    rw [y0, p_size hT, if_pos (nI_le (by omega) (by omega)), if_pos hU]
  | succ d ih =>
    intro i n p st ib U M hi hn hs hU hib hst hT hG hQ hno
    obtain ⟨n, rfl⟩ : ∃ z, n = z + 1 := ⟨n - 1, by omega⟩
    have h9 := hT.2.1
    have hil : i < tp.length := by omega
    have e := List.drop_eq_getElem_cons hil
    obtain ⟨c, hc⟩ : ∃ z, z = tp[i] := ⟨_, rfl⟩
    have hat : l_at tp (nI i) = c := by rw [l_at_lt (by omega) hil, hc]
    rw [← hc] at e
    rw [e] at hno ⊢
    have hok : rd_ok p c st.length := by
      apply Classical.byContradiction
      intro q
      unfold rd at hno
      rw [if_neg q] at hno
      exact absurd hno (by simp)
    have e1 : ∀ {V : List Int32} {b : Nat}, V.length ≤ 24 → b ≤ V.length → (V ++ rd_rep (V.drop b) (1 - 1)) = V := fun _ _ => List.append_nil _
    unfold lp_X3_expandInto_1
    rw [y0, p_size hT, if_neg (nI_ge (by omega) (by omega)), p_at z0 hT, hat, y1]
    unfold rd at hno ⊢
    rw [if_pos hok] at hno ⊢
    dsimp only [lt_]
    by_cases q1 : c = 40
    · rw [if_pos q1] at hno
      rw [if_pos q1, if_pos q1]
      dsimp only [Option.bind]
      unfold rd_ok at hok
      rw [if_pos q1] at hok
      rw [p_size hQ]
      have hgl : (st.reverse.map nI).length < 4 := by rw [List.length_map, List.length_reverse]; exact hok
      have r1 := p_push_LN z1 hG hgl (nI U.length)
      have r2 := p_push_fr z1 hG hgl (nI U.length)
      obtain ⟨M1, hM1⟩ : ∃ z, z = s_X4_push Y M (o + 3) (nI U.length) := ⟨_, rfl⟩
      rw [← hM1] at r1 r2 ⊢
      obtain ⟨M2, a1, a2, a3, -⟩ := p_repeatEnd (M := M1) hyq (hQ.frame r2 (by omega)) (t := 1) hib (by omega)
      rw [e1 hU hib] at a1 a3
      rw [if_pos hU] at a1
      rw [show nI 1 = (1 : Int32) from rfl] at a1
      rw [a1]
      dsimp only
      rw [if_neg (by decide), nI_1]
      obtain ⟨M', b1, b2, b3⟩ := ih (i + 1) n c (U.length :: st) ib U M2 (by omega) (by omega) (by rw [List.length_cons]; omega) hU hib (fun b hb => by
          rcases List.mem_cons.mp hb with hb | hb
          · rw [hb]; exact Nat.le_refl _
          · exact hst b hb) ((hT.frame r2 (by omega)).frame a2 (by omega)) (by
          rw [List.reverse_cons, List.map_append]
          exact r1.frame a2 (by omega)) (a3 hU) hno
      exact ⟨M', b1, fun a ha => by rw [b2 a ha, a2 a (by omega), r2 a (by omega)], b3⟩
    · rw [if_neg q1] at hno
      rw [if_neg q1, if_neg q1]
      by_cases q2 : c = 41
      · rw [if_pos q2] at hno
        rw [if_pos q2, if_pos q2]
        unfold rd_ok at hok
        rw [if_neg q1, if_pos q2] at hok
        obtain ⟨b, st', rfl⟩ : ∃ b st', st = b :: st' := by
          cases st with
          | nil => exact absurd hok.1 (Nat.lt_irrefl _)
          | cons b st' => exact ⟨b, st', rfl⟩
        rw [List.length_cons] at hs
        have hbU := hst b List.mem_cons_self
        have hrev : (b :: st').reverse.map nI = st'.reverse.map nI ++ [nI b] := by rw [List.reverse_cons, List.map_append]; rfl
        rw [hrev] at hG
        have hgl : (st'.reverse.map nI).length = st'.length := by rw [List.length_map, List.length_reverse]
        obtain ⟨M1, r0, r2, r1⟩ := p_removeAt z1 hG (p := (st'.reverse.map nI).length) (by rw [List.length_append, List.length_singleton]; omega)
        rw [l_del_last] at r1
        have hsz : s_X4_size Y M (o + 3) - (1 : Int32) = nI (st'.reverse.map nI).length := by
          rw [p_size hG, List.length_append, List.length_singleton, nI_pd]
        have hlast : (st'.reverse.map nI ++ [nI b])[(st'.reverse.map nI).length]'(by rw [List.length_append, List.length_singleton]; omega) = nI b := List.getElem_concat_length rfl _
        rw [hsz, r0]
        dsimp only [Option.bind]
        rw [hlast]
        obtain ⟨M2, a1, a2, a3, -⟩ := p_repeatEnd (M := M1) hyq (hQ.frame r2 (by omega)) (t := 1) hbU (by omega)
        rw [e1 hU hbU] at a1 a3
        rw [if_pos hU] at a1
        rw [show nI 1 = (1 : Int32) from rfl] at a1
        rw [a1]
        dsimp only
        rw [if_neg (by decide), nI_1]
        obtain ⟨M', b1, b2, b3⟩ := ih (i + 1) n c st' b U M2 (by omega) (by omega) (by omega) hU hbU (fun x hx => hst x (List.mem_cons_of_mem _ hx)) ((hT.frame r2 (by omega)).frame a2 (by omega)) (r1.frame a2 (by omega)) (a3 hU) hno
        exact ⟨M', b1, fun a ha => by rw [b2 a ha, a2 a (by omega), r2 a (by omega)], b3⟩
      · rw [if_neg q2] at hno
        rw [if_neg q2, if_neg q2]
        by_cases q3 : rd_L c
        · rw [if_pos q3] at hno
          rw [if_neg (fun e => p_isLetter.mp e q3), if_pos q3]
          rw [p_size hQ, p_isFull hyq hQ]
          by_cases q4 : U.length < 24
          · rw [if_pos q4, if_pos rfl]
            dsimp only [Option.bind]
            have r1 := p_push_LN hyq hQ q4 (c - 97)
            have r2 := p_push_fr hyq hQ q4 (c - 97)
            obtain ⟨M1, hM1⟩ : ∃ z, z = s_X4_push Y M q (c - 97) := ⟨_, rfl⟩
            rw [← hM1] at r1 r2 ⊢
            have hU1 : (U ++ [c - 97]).length ≤ 24 := by rw [List.length_append, List.length_singleton]; omega
            have hib1 : U.length ≤ (U ++ [c - 97]).length := by rw [List.length_append]; omega
            obtain ⟨M2, a1, a2, a3, -⟩ := p_repeatEnd (M := M1) hyq r1 (t := 1) hib1 (by omega)
            rw [e1 hU1 hib1] at a1 a3
            rw [if_pos hU1] at a1
            rw [show nI 1 = (1 : Int32) from rfl] at a1
            rw [a1]
            dsimp only
            rw [if_neg (by decide), nI_1]
            obtain ⟨M', b1, b2, b3⟩ := ih (i + 1) n c st U.length (U ++ [c - 97]) M2 (by omega) (by omega) hs hU1 hib1 (fun x hx => Nat.le_trans (hst x hx) hib1) ((hT.frame r2 (by omega)).frame a2 (by omega)) ((hG.frame r2 (by omega)).frame a2 (by omega)) (a3 hU1) hno
            exact ⟨M', b1, fun a ha => by rw [b2 a ha, a2 a (by omega), r2 a (by omega)], b3⟩
          · rw [if_neg q4, if_neg (by decide)]
            have hl := rd_len (tp.drop (i + 1)) (i + 1) c st U.length (U ++ [c - 97])
            rw [List.length_append, List.length_singleton] at hl
            dsimp only [Option.bind]
            rw [if_neg (by omega)]
            exact ⟨M, rfl, fun a _ => rfl, fun h => by omega, U, hQ⟩
        · rw [if_neg q3] at hno
          rw [if_pos (p_isLetter.mpr q3), if_neg q3]
          have hD : rd_D c := by
            apply Classical.byContradiction
            intro q5
            unfold rd_ok at hok
            rw [if_neg q1, if_neg q2, if_neg q5] at hok
            exact q3 hok
          obtain ⟨k, k2, k9, k1, k3⟩ := rd_t_D hD
          rw [k3] at hno ⊢
          dsimp only [Option.bind]
          rw [k1]
          obtain ⟨M2, a1, a2, a3, V, a4⟩ := p_repeatEnd (M := M) hyq hQ (t := k) hib (by omega)
          rw [a1]
          dsimp only
          by_cases q6 : (U ++ rd_rep (U.drop ib) (k - 1)).length ≤ 24
          · rw [if_pos q6, if_neg (by decide), nI_1]
            have hle : U.length ≤ (U ++ rd_rep (U.drop ib) (k - 1)).length := by rw [List.length_append]; omega
            obtain ⟨M', b1, b2, b3⟩ := ih (i + 1) n c st ib _ M2 (by omega) (by omega) hs q6 (Nat.le_trans hib hle) (fun x hx => Nat.le_trans (hst x hx) hle) (hT.frame a2 (by omega)) (hG.frame a2 (by omega)) (a3 q6) hno
            exact ⟨M', b1, fun a ha => by rw [b2 a ha, a2 a (by omega)], b3⟩
          · rw [if_neg q6, if_pos rfl]
            have hl := rd_len (tp.drop (i + 1)) (i + 1) c st ib (U ++ rd_rep (U.drop ib) (k - 1))
            rw [if_neg (by omega)]
            exact ⟨M2, rfl, fun a ha => a2 a (by omega), fun h => by omega, V, a4⟩
theorem p_expandInto (hy : InAt Y o) {q : Nat} (hyq : LnAt Y q 24) (hd : q + 2 ≤ o ∨ o + 5 ≤ q) (hT : LN M (o + 1) 50 tp) (hno : (rd tp 0 (-1) [] 0 []).1 = none) :
    ∃ M', s_X3_expandInto Y M o q = some (if (rd tp 0 (-1) [] 0 []).2.length ≤ 24 then 1 else 0, M') ∧ (∀ a, (a < o + 3 ∨ o + 5 ≤ a) ∧ (a < q ∨ q + 2 ≤ a) → M' a = M a) ∧ ((rd tp 0 (-1) [] 0 []).2.length ≤ 24 → LN M' q 24 (rd tp 0 (-1) [] 0 []).2) ∧ ∃ V, LN M' q 24 V := by
  have h9 := hT.2.1
  have t1 := p_clear_LN (Y := Y) (M := M) (o := q) (cap := 24)
  have f1 := p_clear_fr (Y := Y) (M := M) (o := q)
  obtain ⟨M1, hM1⟩ : ∃ z, z = s_X4_clear Y M q := ⟨_, rfl⟩
  rw [← hM1] at t1 f1
  have t2 := p_clear_LN (Y := Y) (M := M1) (o := o + 3) (cap := 4)
  have f2 := p_clear_fr (Y := Y) (M := M1) (o := o + 3)
  obtain ⟨M2, hM2⟩ : ∃ z, z = s_X4_clear Y M1 (o + 3) := ⟨_, rfl⟩
  rw [← hM2] at t2 f2
  obtain ⟨M', a1, a2, a3⟩ := p_expand_loop hy hyq hd tp.length 0 j_fuel (-1) [] 0 [] M2 (by omega) (j_fuel_gt (by omega)) (by decide) (by decide) (Nat.le_refl _) (fun b hb => absurd hb List.not_mem_nil) ((hT.frame f1 (by omega)).frame f2 (by omega)) t2 (t1.frame f2 (by omega)) hno
  refine ⟨M', ?_, fun a ha => by rw [a2 a ha, f2 a (by omega), f1 a (by omega)], a3⟩
  unfold s_X3_expandInto
  rw [hy.2.1]
  dsimp only [lt_]
  rw [← hM1, ← hM2]
  have a4 : lp_X3_expandInto_1 Y o q j_fuel 0 0 M2 = some (if (rd tp 0 (-1) [] 0 []).2.length ≤ 24 then 1 else 0, M') := a1
  rw [a4]
  rfl
end INC

/-! ===== pure: the law: the patch put on a document, and taken back ===== -/
theorem f_up_back {ds : Nat → List Int32} {r : Nat} {D : List Int32} : f_up (f_up ds r D) r (ds r) = ds := by
  funext t
  by_cases e : t = r
  · rw [e, f_up_s]
  · rw [f_up_n e, f_up_n e]
theorem nZ_abs {z : Int} (h : -11 < z ∧ z < 11) : (if 0 ≤ nZ z then nZ z else 0 - nZ z) ≤ (10 : Int32) := by
  have e10 : (10 : Int32).toInt = 10 := by decide
  have e0 : (0 : Int32) - nZ z = nZ (0 - z) := nZ_sub 0 z
  split
  · rw [Int32.le_iff_toInt_le, nZ_toInt (by omega), e10]
    omega
  · rw [e0, Int32.le_iff_toInt_le, nZ_toInt (by omega), e10]
    omega
theorem k_many_le : ∀ (rs : List (List Int32)), k_many rs ≤ rs.length := by
  intro rs
  induction rs with
  | nil => exact Nat.le_refl _
  | cons r rs ih =>
    show (if (r[0]?).getD (-1) = (-1 : Int32) then 0 else 1) + k_many rs ≤ _
    rw [List.length_cons]
    split <;> omega
section PD1
variable {Y : JY} {M : JM} {L : Nat} {sc : Nat → Int32} {md sh : Int32} {ds : Nat → List Int32} {hs : List (Nat × List Int32)} {es : Nat → List Int32} {sm sv : Int32}
theorem f_fill (hY : YH Y) (l142 : j_ln Y 142 = (ds 3).length) (h24 : (ds 3).length ≤ 24) : ∀ (d i n : Nat) (M : JM), (ds 3).length = i + d → d < n → SH M 1 4 ds → (∀ t, t < i → M 142 t = ((ds 3)[t]?).getD (-1)) →
    ∃ M', lp_g3_1 Y (nI (ds 3).length) n (nI i) M = some M' ∧ JFr 142 143 M M' ∧ ∀ t, t < (ds 3).length → M' 142 t = ((ds 3)[t]?).getD (-1) := by
  intro d
  induction d with
  | zero =>
    intro i n M hi hn hS h1
    obtain ⟨n, rfl⟩ : ∃ z, n = z + 1 := ⟨n - 1, by omega⟩
    refine ⟨M, ?_, JFr.refl, fun t ht => h1 t (by omega)⟩
    rw [lp_g3_1, if_pos (nI_le (by omega) (by omega))]
  | succ d ih =>
    intro i n M hi hn hS h1
    obtain ⟨n, rfl⟩ : ∃ z, n = z + 1 := ⟨n - 1, by omega⟩
    have e := k_line (r := 3) (i := i) hY hS (by decide) (by omega)
    rw [show nI 3 = (3 : Int32) from rfl] at e
    have f1 : JFr 142 143 M (j_up M 142 i (((ds 3)[i]?).getD (-1))) := JFr.up
    obtain ⟨M', b1, b2, b3⟩ := ih (i + 1) n (j_up M 142 i (((ds 3)[i]?).getD (-1))) (by omega) (by omega) (hS.frame f1 (by omega)) (fun t ht => by
      by_cases q : t = i
      · rw [q, j_up_s]
      · rw [j_up_k q]
        exact h1 t (by omega))
    refine ⟨M', ?_, f1.trans b2, b3⟩
    rw [lp_g3_1, if_neg (nI_ge (by omega) (by omega)), e]
    dsimp only [Option.bind]
    rw [if_pos (by rw [l142]; exact j_gI (by omega) (by omega)), nI_clamp (by omega)]
    dsimp only [lt_]
    rw [nI_1]
    exact b1
theorem f_check (hY : YH Y) (l142 : j_ln Y 142 = (ds 3).length) (h24 : (ds 3).length ≤ 24) (hS : SH M 1 4 ds) (h1 : ∀ t, t < (ds 3).length → M 142 t = ((ds 3)[t]?).getD (-1)) : ∀ (d i n : Nat), (ds 3).length = i + d → d < n → lp_g3_4 Y (nI (ds 3).length) M n (nI i) = some () := by
  intro d
  induction d with
  | zero =>
    intro i n hi hn
    obtain ⟨n, rfl⟩ : ∃ z, n = z + 1 := ⟨n - 1, by omega⟩
    rw [lp_g3_4, if_pos (nI_le (by omega) (by omega))]
  | succ d ih =>
    intro i n hi hn
    obtain ⟨n, rfl⟩ : ∃ z, n = z + 1 := ⟨n - 1, by omega⟩
    have e := k_line (r := 3) (i := i) hY hS (by decide) (by omega)
    rw [show nI 3 = (3 : Int32) from rfl] at e
    rw [lp_g3_4, if_neg (nI_ge (by omega) (by omega)), e]
    dsimp only [Option.bind]
    rw [if_pos (by rw [l142]; exact j_gI (by omega) (by omega)), nI_clamp (by omega), h1 i (by omega), if_pos rfl]
    dsimp only [lt_]
    rw [nI_1]
    exact ih (i + 1) n (by omega) (by omega)
section PD2
variable {xs ys ts : List Int32} {ph : List HK} {kp : List (List Int32)} {v : Int32}
theorem h_inner (hY : YH Y) (l142 : j_ln Y 142 = ts.length) (ht24 : ts.length ≤ 24) (hx24 : xs.length ≤ 24) (hP : PC M 127 true xs ys ph kp) (hS : SH M 1 4 ds) (hx : ds 1 = xs) (hb : ∀ t, t < ts.length → M 142 t = (ts[t]?).getD (-1)) {i p : Nat} {h : HK} (hi : ph[i]? = some h) (hv : h.1 + h.2.1 ≤ xs.length) (hp : p + h.2.1 ≤ ts.length) (heq : ∀ k, k < h.2.1 → (ts[p + k]?).getD (-1) = (xs[h.1 + k]?).getD (-1)) :
    ∀ (d k n : Nat), h.2.1 = k + d → d < n → lp_g3_3 Y (v, M) (nI i) (nI p) n (nI k) = some () := by
  have e1 : s_X9_hunk Y M 0 (nI i) (1 : Int32) = some (nI h.2.1) := k_hunk (j := 1) hY hP hi (by decide)
  have e0 : s_X9_hunk Y M 0 (nI i) (0 : Int32) = some (nI h.1) := k_hunk (j := 0) hY hP hi (by decide)
  intro d
  induction d with
  | zero =>
    intro k n hk hn
    obtain ⟨n, rfl⟩ : ∃ z, n = z + 1 := ⟨n - 1, by omega⟩
    rw [lp_g3_3]
    dsimp only
    rw [e1]
    dsimp only [Option.bind]
    rw [if_pos (nI_le (by omega) (by omega))]
  | succ d ih =>
    intro k n hk hn
    obtain ⟨n, rfl⟩ : ∃ z, n = z + 1 := ⟨n - 1, by omega⟩
    have e := k_line (r := 1) (i := h.1 + k) hY hS (by decide) (by rw [hx]; omega)
    rw [show nI 1 = (1 : Int32) from rfl, hx] at e
    rw [lp_g3_3]
    dsimp only
    rw [e1]
    dsimp only [Option.bind]
    rw [if_neg (nI_ge (by omega) (by omega)), nI_add, if_pos (by rw [l142]; exact j_gI (by omega) (by omega)), e0]
    dsimp only
    rw [nI_add, e]
    dsimp only
    rw [nI_clamp (by omega), if_pos (show M 142 (p + k) = (xs[h.1 + k]?).getD (-1) from (hb (p + k) (by omega)).trans (heq k (by omega)))]
    dsimp only [lt_]
    rw [nI_1]
    exact ih (k + 1) n (by omega) (by omega)
theorem h_outer (hY : YH Y) (l142 : j_ln Y 142 = ts.length) (ht24 : ts.length ≤ 24) (hP : PC M 127 true xs ys ph kp) (hS : SH M 1 4 ds) (hx : ds 1 = xs) (hb : ∀ t, t < ts.length → M 142 t = (ts[t]?).getD (-1)) :
    ∀ (rest done : List HK) (n : Nat) (st : AS) (g : Int), ph = done ++ rest → rest.length < n → kp = (q_att ts xs ys false 0 rest st).2.2.2 → st.2.2.2.length = done.length → st.1 ≤ ts.length → (k_many st.2.2.2 = 0 → st.2.1 = 0) → ((st.2.2.1.length : Int) = (st.1 : Int) + g) →
      ∃ gF : Int, lp_g3_2 Y (nI ph.length) (v, M) n (nI st.1) (nZ g) (nI (k_many st.2.2.2)) (nI done.length) = some (nZ gF, nI (k_many (q_att ts xs ys false 0 rest st).2.2.2)) ∧ (q_att ts xs ys false 0 rest st).1 ≤ ts.length ∧ (((q_att ts xs ys false 0 rest st).2.2.1.length : Int) = ((q_att ts xs ys false 0 rest st).1 : Int) + gF) := by
  obtain ⟨u1, u2, u3, u4, u5⟩ := hP.2.2.2.2 rfl
  have hx24 := u1.2.1
  have hy24 := u2.2.1
  intro rest
  induction rest with
  | nil =>
    intro done n st g he hn hkp hst h1 hm hg
    obtain ⟨n, rfl⟩ : ∃ z, n = z + 1 := ⟨n - 1, by omega⟩
    rw [List.append_nil] at he
    refine ⟨g, ?_, h1, hg⟩
    rw [lp_g3_2, if_pos (nI_le (by rw [he]; exact Nat.le_refl _) (by rw [← he]; omega))]
    rfl
  | cons h rest ih =>
    intro done n st g he hn hkp hst h1 hm hg
    obtain ⟨n, rfl⟩ : ∃ z, n = z + 1 := ⟨n - 1, by omega⟩
    have hlen : ph.length = done.length + (rest.length + 1) := by rw [he, List.length_append, List.length_cons]
    have hi : ph[done.length]? = some h := by
      rw [he, List.getElem?_append_right (Nat.le_refl _), Nat.sub_self]
      rfl
    have hv := HC.drop ph 0 0 done.length h u3 hi
    have hv1 := hv.1
    have hv2 := hv.2.1
    have hn2 : rest.length < n := by rw [List.length_cons] at hn; omega
    have hatt : q_att ts xs ys false 0 (h :: rest) st = q_att ts xs ys false 0 rest (q_as ts xs ys false 0 h st) := rfl
    rw [hatt] at hkp ⊢
    obtain ⟨Rr, hR⟩ := q_att_pre (ts := ts) (os := xs) (ns := ys) (rv := false) (fz := 0) rest (q_as ts xs ys false 0 h st)
    have hkl : kp.length ≤ 25 := by
      have := hP.2.2.2.1.2.2.1
      omega
    have e0 : s_X9_hunk Y M 0 (nI done.length) (0 : Int32) = some (nI h.1) := k_hunk (j := 0) hY hP hi (by decide)
    have e1 : s_X9_hunk Y M 0 (nI done.length) (1 : Int32) = some (nI h.2.1) := k_hunk (j := 1) hY hP hi (by decide)
    have e3 : s_X9_hunk Y M 0 (nI done.length) (3 : Int32) = some (nI h.2.2.2.1) := k_hunk (j := 3) hY hP hi (by decide)
    have hkml := k_many_le st.2.2.2
    have edone : (done ++ [h]).length = done.length + 1 := by rw [List.length_append, List.length_singleton]
    rcases q_step (ts := ts) (xs := xs) (ys := ys) (h := h) (st := st) hv rfl rfl h1 with s1 | ⟨p, s2, s3, s4, s5, s6, s7, s8⟩
    · have hrow : ∀ j, t_at kp done.length j = (([-1, -1] : List Int32)[j]?).getD (-1) := fun j => by
        rw [hkp, hR, s1, ← hst, t_at_pre]
      have hil : done.length < kp.length := by
        rw [hkp, hR, s1]
        simp only [List.length_append, List.length_singleton]
        omega
      have o0 : s_X9_outcome Y M 0 (nI done.length) (0 : Int32) = some (t_at kp done.length 0) := k_outcome (j := 0) hY hP hil (by decide)
      rw [hrow 0] at o0
      have hk2 : k_many (q_as ts xs ys false 0 h st).2.2.2 = k_many st.2.2.2 := by
        rw [s1]
        dsimp only
        rw [k_many_app]
        rfl
      obtain ⟨gF, b1, b2, b3⟩ := ih (done ++ [h]) n (q_as ts xs ys false 0 h st) g (by rw [he, List.append_assoc]; rfl) hn2 hkp (by rw [s1, edone]; dsimp only; rw [List.length_append, List.length_singleton, hst]) (by rw [s1]; exact h1) (by rw [hk2, s1]; exact hm) (by rw [s1]; exact hg)
      refine ⟨gF, ?_, b2, b3⟩
      rw [hk2, edone] at b1
      have e11 : (q_as ts xs ys false 0 h st).1 = st.1 := by rw [s1]
      rw [e11] at b1
      rw [lp_g3_2, if_neg (nI_ge (by omega) (by omega))]
      dsimp only
      rw [o0]
      dsimp only [Option.bind]
      rw [if_pos (show (([-1, -1] : List Int32)[0]?).getD (-1) = (-1 : Int32) from rfl)]
      dsimp only [lt_]
      rw [nI_1]
      exact b1
    · have hrow : ∀ j, t_at kp done.length j = (([nI p, nI 0] : List Int32)[j]?).getD (-1) := fun j => by
        rw [hkp, hR, s8, ← hst, t_at_pre]
      have hil : done.length < kp.length := by
        rw [hkp, hR, s8]
        simp only [List.length_append, List.length_singleton]
        omega
      have o0 : s_X9_outcome Y M 0 (nI done.length) (0 : Int32) = some (nI p) := by
        have o : s_X9_outcome Y M 0 (nI done.length) (0 : Int32) = some (t_at kp done.length 0) := k_outcome (j := 0) hY hP hil (by decide)
        rw [hrow 0] at o
        exact o
      have o1 : s_X9_outcome Y M 0 (nI done.length) (1 : Int32) = some (0 : Int32) := by
        have o : s_X9_outcome Y M 0 (nI done.length) (1 : Int32) = some (t_at kp done.length 1) := k_outcome (j := 1) hY hP hil (by decide)
        rw [hrow 1] at o
        exact o
      have hk2 : k_many (q_as ts xs ys false 0 h st).2.2.2 = k_many st.2.2.2 + 1 := by
        rw [s8, k_many_app]
        congr 1
        show (if (nI p) = (-1 : Int32) then 0 else 1) + 0 = 1
        rw [if_neg (nI_m1 (by omega))]
      obtain ⟨gF, b1, b2, b3⟩ := ih (done ++ [h]) n (q_as ts xs ys false 0 h st) (g + ((h.2.2.2.1 : Int) - (h.2.1 : Int))) (by rw [he, List.append_assoc]; rfl) hn2 hkp (by rw [s8, edone, List.length_append, List.length_singleton, hst]) (by rw [s6]; exact s3) (by rw [hk2]; intro c; omega) (by rw [s6]; omega)
      refine ⟨gF, ?_, b2, b3⟩
      rw [hk2, edone, s6] at b1
      have cond2 : ¬ (nI (k_many st.2.2.2) = 0) ∨ (if 0 ≤ nI p - nI h.1 then nI p - nI h.1 else 0 - (nI p - nI h.1)) ≤ (10 : Int32) := by
        by_cases q : k_many st.2.2.2 = 0
        · have := hm q
          refine Or.inr ?_
          rw [← nZ_n, ← nZ_n, nZ_sub]
          exact nZ_abs (by omega)
        · exact Or.inl (nI_ne0 (by omega) (by omega))
      have hin := h_inner (v := v) hY l142 ht24 hx24 hP hS hx hb hi hv1 s3 s4 h.2.1 0 j_fuel (by omega) (j_fuel_gt (by omega))
      rw [nI_0] at hin
      rw [lp_g3_2, if_neg (nI_ge (by omega) (by omega))]
      dsimp only
      rw [o0]
      dsimp only [Option.bind]
      rw [if_neg (nI_m1 (by omega)), e0]
      dsimp only [lt_]
      rw [o1]
      dsimp only
      rw [if_neg (by
        rintro (c | c)
        · exact c rfl
        · exact nI_nlt s2 (by omega) c), if_pos cond2, hin]
      dsimp only
      rw [e1]
      dsimp only
      rw [e3]
      dsimp only
      rw [nI_add, nI_1, nI_1, show nZ g + (nI h.2.2.2.1 - nI h.2.1) = nZ (g + ((h.2.2.2.1 : Int) - (h.2.1 : Int))) by rw [← nZ_n, ← nZ_n, nZ_sub, nZ_add]]
      exact b1
end PD2
theorem s_3 (hY : YH Y) (l142 : j_ln Y 142 = (ds 3).length) (h : ST M md sh ds hs [] es sm sv) (h24 : (ds 3).length ≤ 24) {ph : List HK} (hP : PC M 127 true (ds 1) (ds 2) ph [])
    {mg : Bool} {bs0 ls0 rs0 : List Int32} {cs0 : List CK} {cf0 : Nat → Int32} (hG : MG M 92 mg bs0 ls0 rs0 cs0 cf0) (a2 : Int32) :
    ∃ M' hs', sg_3 Y M L sc a2 (nI ph.length) (nI (ds 3).length) = some M' ∧ ST M' md sh ds hs' [] es sm sv ∧ MG M' 92 mg bs0 ls0 rs0 cs0 cf0 := by
  obtain ⟨M1, a1, a3, a4⟩ := f_fill hY l142 h24 (ds 3).length 0 j_fuel M (by omega) (j_fuel_gt (by omega)) h.2.1 (fun t ht => absurd ht (Nat.not_lt_zero _))
  rw [nI_0] at a1
  have hP1 := hP.frame a3 (by omega)
  have hG1 := hG.frame a3 (by omega)
  have h1 : ST M1 md sh ds hs [] es sm sv := h.up (hi := 143) (a3.mono (by omega) (by omega))
  by_cases q : (q_done (ds 3) (ds 1) (ds 2) ph false 0).length ≤ 24
  · obtain ⟨M2, b1, b2, b3, b4⟩ := k_apply (r := 3) hY h1 hP1 (by decide) q
    rw [show nI 3 = (3 : Int32) from rfl] at b1
    have m142 : M2 142 = M1 142 := b2.out (Or.inr (by decide)) (by decide)
    have d1 : f_up ds 3 (q_done (ds 3) (ds 1) (ds 2) ph false 0) 1 = ds 1 := f_up_n (by decide)
    obtain ⟨gF, c1, c2, c3⟩ := h_outer (v := nI (k_many (q_patch (ds 3) (ds 1) (ds 2) ph false 0).2.2.2)) hY l142 h24 b4 b3.2.1 d1 (fun t ht => by rw [m142]; exact a4 t ht) ph [] j_fuel (0, 0, [], []) 0 rfl (j_fuel_gt (by have := (hP.2.2.2.2 rfl).2.2.2.1; omega)) rfl rfl (Nat.zero_le _) (fun _ => rfl) rfl
    have hq : q_att (ds 3) (ds 1) (ds 2) false 0 ph (0, 0, [], []) = q_patch (ds 3) (ds 1) (ds 2) ph false 0 := rfl
    rw [hq] at c1 c2 c3
    obtain ⟨F, hF⟩ : ∃ F, F = q_patch (ds 3) (ds 1) (ds 2) ph false 0 := ⟨_, rfl⟩
    have hD : (q_done (ds 3) (ds 1) (ds 2) ph false 0).length = F.2.2.1.length + ((ds 3).length - F.1) := by
      unfold q_done
      rw [← hF, List.length_append, l_seg_len (Nat.le_refl _)]
    rw [← hF] at c1 c2 c3 b1 b4
    have hkm : k_many F.2.2.2 ≤ 25 := by
      have x1 := k_many_le F.2.2.2
      have x2 := b4.2.2.2.1.2.2.1
      omega
    have e3 := k_length (r := 3) hY b3.2.1 (by decide)
    rw [f_up_s, show nI 3 = (3 : Int32) from rfl] at e3
    have b3' : ST M2 md sh (f_up ds 3 (q_done (ds 3) (ds 1) (ds 2) ph false 0)) ((3, ds 3) :: hs.take 7) [] es sm sv := b3
    obtain ⟨M3, u1, u2, u3⟩ := k_undo hY b3' (by decide)
    rw [f_up_back] at u3
    rw [show nI 3 = (3 : Int32) from rfl] at u1
    have m3 : M3 142 = M1 142 := (u2.out (Or.inr (by decide)) (by decide)).trans m142
    have e4 := k_length (r := 3) hY u3.2.1 (by decide)
    rw [show nI 3 = (3 : Int32) from rfl] at e4
    have e5 := f_check hY l142 h24 u3.2.1 (fun t ht => by rw [m3]; exact a4 t ht) (ds 3).length 0 j_fuel (by omega) (j_fuel_gt (by omega))
    rw [nI_0] at e5
    refine ⟨M3, _, ?_, u3, ((hG1.cf b2 (by decide)).cf u2 (by decide))⟩
    have ap : s_L_applied Y M1 0 = some (nI (k_many F.2.2.2), M2) := by
      unfold s_L_applied
      rw [b1]
      rfl
    have hsum : nI (q_done (ds 3) (ds 1) (ds 2) ph false 0).length = nI (ds 3).length + nZ gF := by
      rw [← nZ_n, ← nZ_n, nZ_add]
      congr 1
      omega
    have c1' : lp_g3_2 Y (nI ph.length) (nI (k_many F.2.2.2), M2) j_fuel 0 0 0 0 = some (nZ gF, nI (k_many F.2.2.2)) := c1
    unfold sg_3
    rw [a1]
    dsimp only [Option.bind]
    rw [ap]
    dsimp only [lt_]
    rw [if_neg (nI_pos (by omega)), c1']
    dsimp only
    rw [if_pos rfl, e3]
    dsimp only
    rw [if_pos hsum, u1]
    dsimp only
    rw [if_pos rfl]
    dsimp only
    rw [e4]
    dsimp only
    rw [if_pos rfl, e5]
  · obtain ⟨M2, b1, b2, b3, b4⟩ := k_applyN (r := 3) hY h1 hP1 (by decide) q
    rw [show nI 3 = (3 : Int32) from rfl] at b1
    have m142 : M2 142 = M1 142 := b2.out (Or.inr (by decide)) (by decide)
    have ap : s_L_applied Y M1 0 = some (-1, M2) := by
      unfold s_L_applied
      rw [b1]
      rfl
    have e4 := k_length (r := 3) hY b3.2.1 (by decide)
    rw [show nI 3 = (3 : Int32) from rfl] at e4
    have e5 := f_check hY l142 h24 b3.2.1 (fun t ht => by rw [m142]; exact a4 t ht) (ds 3).length 0 j_fuel (by omega) (j_fuel_gt (by omega))
    rw [nI_0] at e5
    refine ⟨M2, _, ?_, b3, hG1.cf b2 (by decide)⟩
    unfold sg_3
    rw [a1]
    dsimp only [Option.bind]
    rw [ap]
    dsimp only [lt_]
    rw [if_pos (by decide)]
    dsimp only
    rw [e4]
    dsimp only
    rw [if_pos rfl, e5]
end PD1

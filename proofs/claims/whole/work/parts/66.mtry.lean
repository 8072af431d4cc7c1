/-! ===== pure: patches; the model tries one ===== -/
section PMT
variable {Y : JY} {M : JM} {om : Nat} {xs ys ts os ns acc : List Int32} {hs : List HK}
theorem m_makePatch (hy : MdAt Y om) {P : List (Nat × Nat)} {anc : Nat} {mv : List (List Int32)} (hC : CMm M om true xs ys P anc mv) {c : Nat} (hc : c ≤ 3) :
    ∃ M', s_X10_makePatch Y M om (nI c) = some (nI (q_hunks xs.length c (q_dl (lk P) xs.length ys.length)).length, M') ∧ MF om [29, 30, 31] [0, 51, 53, 56] M M' ∧ M' om 0 = 0 ∧ PCm M' om true xs ys (q_hunks xs.length c (q_dl (lk P) xs.length ys.length)) [] := by
  obtain ⟨a1, a2, a3, a4, a5⟩ := hC
  obtain ⟨b1, b2, b3, b4, b5, b6, b7, b8, b9, b10, b11⟩ := a5 rfl
  rw [q_dl_diffs, List.length_map] at b10
  rw [q_dl_diffs] at b11
  have hDC : DC xs.length ys.length 0 0 (q_dl (lk P) xs.length ys.length) := q_ds_DC (lk_PM b3.1 b3.2) xs.length 0 0 0 0 0 (by omega) (Nat.le_refl _) (fun _ _ _ _ => Nat.zero_le _) (Nat.zero_le _) (Nat.le_refl _) (Nat.le_refl _) rfl
  have hDl := q_dl_len (pt := lk P) (n := xs.length) (m := ys.length)
  have hHC := q_hunks_HC hc hDC
  have hhl := q_hunks_len (n := xs.length) (c := c) (ds := q_dl (lk P) xs.length ys.length)
  have f1 : MF om [] [51] M (j_up M om 51 1) := MF.uf
  have f2 : MF om [] [56] (j_up M om 51 1) (j_up (j_up M om 51 1) om 56 0) := MF.uf
  have f3 : MF om [] [53] (j_up (j_up M om 51 1) om 56 0) (j_up (j_up (j_up M om 51 1) om 56 0) om 53 0) := MF.uf
  have F3 : MF om [] [51, 53, 56] M (j_up (j_up (j_up M om 51 1) om 56 0) om 53 0) := ((f1.mono (by simp) (by simp)).trans (f2.mono (by simp) (by simp))).trans (f3.mono (by simp) (by simp))
  obtain ⟨M4, c1, c2, c3⟩ := m_patch1 hy 24 0 j_fuel (j_up (j_up (j_up M om 51 1) om 56 0) om 53 0) (by omega) (by unfold j_fuel; omega) (fun t ht => absurd ht (Nat.not_lt_zero _))
  have F4 : MF om [30, 31] [51, 53, 56] M M4 := (F3.mono (by simp) (by simp)).trans (c2.mono (by simp) (by simp))
  obtain ⟨M5, d1, d2, d3, d4⟩ := m_patch2 hy (D := q_dl (lk P) xs.length ys.length) (by omega) hc b1 b2 (q_dl (lk P) xs.length ys.length).length 0 j_fuel M4 [] 0 0 (by omega) (Nat.zero_le _) (j_fuel_gt (by omega)) (by rw [F4.fld (by decide) (by decide)]; exact b10) (by rw [F4.fld (by decide) (by decide)]; exact b4) (b11.eq (F4.arr (t := 19) (by decide) (by decide)))
    (by rw [c2.fld (by decide) (by decide), j_up_s]; rfl) (fun i hi => absurd hi (Nat.not_lt_zero _)) (Nat.le_refl _) hDC (fun d hd => by
      rcases hq : q_dl (lk P) xs.length ys.length with _ | ⟨x, D'⟩
      · rw [hq] at hd; exact absurd hd (by simp)
      · rw [hq] at hd hDC
        have : x = d := by simpa using hd
        rw [← this]
        have h1 := hDC.1
        have h2 := hDC.2.1
        have h3 := hDC.2.2.1
        omega)
  have f6 : MF om [] [0] M5 (j_up M5 om 0 0) := MF.uf
  have F6 : MF om [29, 30, 31] [0, 51, 53, 56] M (j_up M5 om 0 0) := ((F4.mono (by simp) (by simp)).trans (d2.mono (by simp) (by simp))).trans (f6.mono (by simp) (by simp))
  have d26 : MF om [29] [0, 53] M4 (j_up M5 om 0 0) := (d2.mono (by simp) (by simp)).trans (f6.mono (by simp) (by simp))
  have d5 : M5 om 53 = nI (q_hunks xs.length c (q_dl (lk P) xs.length ys.length)).length := d3
  have d6 : TBm M5 (om + 29) 6 ((q_hunks xs.length c (q_dl (lk P) xs.length ys.length)).map h_row) := d4
  refine ⟨j_up M5 om 0 0, ?_, F6, j_up_s, ?_, (fun e => absurd e (by decide)), fun _ => ⟨⟨b1, b2, hHC, by omega⟩, ?_, ?_, ?_, ?_, Or.inl ⟨?_, rfl⟩⟩⟩
  · unfold s_X10_makePatch
    rw [if_neg (by
      rw [m_in, show (3 : Int32) = nI 3 from rfl]
      rintro (h | h)
      · exact nI_pos (by omega) h
      · exact nI_nlt (by omega) (by omega) h), a1, if_neg (by decide)]
    dsimp only [lt_]
    rw [nI_0] at c1 d1
    rw [c1]
    dsimp only [Option.bind]
    rw [d1]
    dsimp only
    unfold s_X10_done
    dsimp only [lt_]
    rw [d5]
  · rw [d26.fld (by decide) (by decide), c2.fld (by decide) (by decide), f3.fld (by decide) (by decide), f2.fld (by decide) (by decide), j_up_s]
    rfl
  · rw [f6.fld (by decide) (by decide)]; exact d5
  · exact d6.eq (f6.arr (t := 29) (by decide) (by decide))
  · intro i hi
    rw [d26.arr (t := 30) (by decide) (by decide), (c3 i (by omega)).1, F4.arr (t := 15) (by decide) (by decide)]
    exact b6 i hi
  · intro i hi
    rw [d26.arr (t := 31) (by decide) (by decide), (c3 i (by omega)).2, F4.arr (t := 16) (by decide) (by decide)]
    exact b7 i hi
  · rw [d26.fld (by decide) (by decide), c2.fld (by decide) (by decide), f3.fld (by decide) (by decide), j_up_s]
/-- a register's document in the model -/
def DR (M : JM) (om r : Nat) (ts : List Int32) : Prop := M (om + 2) r = nI ts.length ∧ ts.length ≤ 24 ∧ ∀ i, i < ts.length → ts[i]? = some (M (om + 1) (24 * r + i))
theorem DR.get {r : Nat} (h : DR M om r ts) {i : Nat} (hi : i < ts.length) : M (om + 1) (24 * r + i) = (ts[i]?).getD (-1) := by rw [h.2.2 i hi]; rfl
theorem DR.eq {M' : JM} {r : Nat} (h : DR M om r ts) (e1 : M' (om + 1) = M (om + 1)) (e2 : M' (om + 2) = M (om + 2)) : DR M' om r ts := by
  obtain ⟨a1, a2, a3⟩ := h
  exact ⟨by rw [e2]; exact a1, a2, fun i hi => by rw [e1]; exact a3 i hi⟩
theorem m_fits (hy : MdAt Y om) {r : Nat} (hr : r < 4) (hD : DR M om r ts) {tq : Nat} (hlq : j_ln Y (om + tq) = 24) (hos : os.length ≤ 24) (hq : RA M (om + tq) os) {rp : Nat} (h58 : M om 58 = nI rp) (hrp : rp < 1000) {p : Int} (hp : -1000 ≤ p ∧ p ≤ 1000) {b e : Nat} (hb : b ≤ e ∧ e ≤ os.length) :
    s_X10_fits Y M om (nI r) (nZ p) (om + tq) (nI b) (nI (e - b)) = some (if q_fits ts os rp p b e then 1 else 0) := by
  have e1 : j_rf Y om 1 = om + 1 := (hy (1, 1, 96) (by decide)).1
  have l1 : j_ln Y (om + 1) = 96 := (hy (1, 1, 96) (by decide)).2
  have e2 : j_rf Y om 2 = om + 2 := (hy (2, 2, 4) (by decide)).1
  have l2 : j_ln Y (om + 2) = 4 := (hy (2, 2, 4) (by decide)).2
  have ht24 := hD.2.1
  have e10 : ¬ (1 : Int32) = 0 := by decide
  have zero : ∀ (p2 : Int32) (k n' : Nat), lp_X10_fits_1 Y (nI (e - b)) (nI r) p2 om (nI b) (om + tq) M (n' + 1) 0 (nI k) = some 0 := by
    intro p2 k n'
    unfold lp_X10_fits_1
    rw [if_pos (Or.inr rfl), if_pos (Or.inl rfl)]
  have hfu : j_fuel = 9999 + 1 := rfl
  unfold s_X10_fits
  rw [h58, ← nZ_n rp]
  by_cases c1 : (rp : Int) ≤ p
  · obtain ⟨k0, rfl⟩ : ∃ k : Nat, p = (k : Int) := ⟨p.toNat, by omega⟩
    rw [if_neg (by rw [nZ_lt (by omega) (by omega)]; omega), e2, l2, if_pos (j_g_nI hr (by omega)), nI_clamp (by omega), hD.1, nZ_n, nI_add]
    by_cases c2 : k0 + (e - b) ≤ ts.length
    · rw [if_neg (nI_nlt c2 (by omega))]
      dsimp only [Option.bind]
      have loop : ∀ (d k n' : Nat), e - b = k + d → d < n' → ∃ v, lp_X10_fits_1 Y (nI (e - b)) (nI r) (nI k0) om (nI b) (om + tq) M n' 1 (nI k) = some v ∧ (v = 0 ∨ v = 1) ∧ (v = 1 ↔ ∀ t, k ≤ t → t < e - b → (ts[k0 + t]?).getD (-1) = (os[b + t]?).getD (-1)) := by
        intro d
        induction d with
        | zero =>
          intro k n' hk hn'
          obtain ⟨n', rfl⟩ : ∃ z, n' = z + 1 := ⟨n' - 1, by omega⟩
          refine ⟨1, ?_, Or.inr rfl, ⟨fun _ t a b => by omega, fun _ => rfl⟩⟩
          unfold lp_X10_fits_1
          rw [if_pos (Or.inl (nI_le (by omega) (by omega))), if_pos (Or.inr rfl)]
        | succ d ih =>
          intro k n' hk hn'
          obtain ⟨n', rfl⟩ : ∃ z, n' = z + 1 := ⟨n' - 1, by omega⟩
          have g1 : j_g (nI (24 * r + k0 + k)) 96 := j_g_nI (by omega) (by omega)
          have g2 : j_g (nI (b + k)) 24 := j_g_nI (by omega) (by omega)
          have a1 : M (om + 1) (24 * r + k0 + k) = (ts[k0 + k]?).getD (-1) := by rw [Nat.add_assoc]; exact hD.get (by omega)
          unfold lp_X10_fits_1
          rw [if_neg (by rintro (c | c); exact nI_ge (by omega) (by omega) c; exact e10 c), nI_24, nI_add, nI_add, e1, l1, hlq, if_pos g1, if_pos g2, nI_clamp (by omega), nI_clamp (by omega), a1, hq.get' (by omega)]
          dsimp only [lt_]
          rw [nI_1]
          by_cases q : (ts[k0 + k]?).getD (-1) = (os[b + k]?).getD (-1)
          · rw [if_pos q]
            obtain ⟨v, c1, c2, c3⟩ := ih (k + 1) n' (by omega) (by omega)
            refine ⟨v, c1, c2, c3.trans ⟨fun h t a b => ?_, fun h t a b => h t (by omega) b⟩⟩
            by_cases e : t = k
            · rw [e]; exact q
            · exact h t (by omega) b
          · rw [if_neg q]
            obtain ⟨n', rfl⟩ : ∃ z, n' = z + 1 := ⟨n' - 1, by omega⟩
            exact ⟨0, zero _ _ _, Or.inl rfl, ⟨fun c => absurd c (by decide), fun h => absurd (h k (Nat.le_refl _) (by omega)) q⟩⟩
      obtain ⟨v, d1, d2, d3⟩ := loop (e - b) 0 j_fuel (by omega) (j_fuel_gt (by omega))
      rw [nI_0] at d1
      rw [d1]
      dsimp only
      have hse := l_seg_eq (xs := ts) (ys := os) (b := k0) (e := k0 + (e - b)) (b' := b) (e' := e) c2 hb.2 (by omega) hb.1
      rw [show k0 + (e - b) - k0 = e - b by omega] at hse
      by_cases q2 : l_seg ts k0 (k0 + (e - b)) = l_seg os b e
      · rw [if_pos ⟨c1, by omega, by rw [Int.toNat_natCast]; exact q2⟩, d3.mpr (fun t _ b => hse.mp q2 t b)]
      · rw [if_neg (fun c => q2 (by have := c.2.2; rw [Int.toNat_natCast] at this; exact this))]
        rcases d2 with d2 | d2
        · rw [d2]
        · exact absurd (hse.mpr (fun t b => d3.mp d2 t (Nat.zero_le _) b)) q2
    · rw [if_pos (nI_lt (by omega) (by omega)), hfu]
      dsimp only [Option.bind]
      have z := zero (nI k0) 0 9999
      rw [nI_0] at z
      rw [z]
      dsimp only
      rw [if_neg (fun c => c2 (by have := c.2.1; omega))]
  · rw [if_pos (by rw [nZ_lt (by omega) (by omega)]; omega), hfu]
    dsimp only [Option.bind]
    have z := zero (nZ p) 0 9999
    rw [nI_0] at z
    rw [z]
    dsimp only
    rw [if_neg (fun c => c1 c.1)]
theorem a_odd : ∀ j : Nat, j < 11 → 0 < j → (nI (2 * j - 1) - nI (2 * j - 1) / 2 * 2 = 1) ∧ (nI (2 * j - 1) + 1) / 2 = nI j := by decide +kernel
theorem a_even : ∀ j : Nat, j < 11 → ¬ (nI (2 * j) - nI (2 * j) / 2 * 2 = 1) ∧ (-(nI (2 * j))) / 2 = nZ (-(j : Int)) := by decide +kernel
theorem m_app_loop (hy : MdAt Y om) {r : Nat} (hr : r < 4) (hD : DR M om r ts) {tq : Nat} (hlq : j_ln Y (om + tq) = 24) (hos : os.length ≤ 24) (hq : RA M (om + tq) os) {rp : Nat} (h58 : M om 58 = nI rp) (hrp : rp < 1000) {sf : Int} (h59 : M om 59 = nZ sf) (hsf : -100 ≤ sf ∧ sf ≤ 100) {b e : Nat} (hb : b ≤ e ∧ e ≤ os.length) :
    ∀ (d j n : Nat), 11 = j + d → 0 < j → 2 * d < n → lp_X10_applies_1 Y M (nI b) om (nI r) (om + tq) (nI (e - b)) n (nI (2 * j - 1)) = some (match q_ff ts os rp b e ((b : Int) + sf) d j with | none => Sum.inr (0, M) | some p => Sum.inl (nZ p)) := by
  have ebs : nI b + nZ sf = nZ ((b : Int) + sf) := by rw [← nZ_n, nZ_add]
  intro d
  induction d with
  | zero =>
    intro j n hj h0 hn
    obtain ⟨n, rfl⟩ : ∃ z, n = z + 1 := ⟨n - 1, by omega⟩
    unfold lp_X10_applies_1
    rw [if_pos (by rw [show (20 : Int32) = nI 20 from rfl]; exact nI_lt (by omega) (by omega))]
    rfl
  | succ d ih =>
    intro j n hj h0 hn
    obtain ⟨n, rfl⟩ : ∃ z, n = z + 1 := ⟨n - 1, by omega⟩
    obtain ⟨n, rfl⟩ : ∃ z, n = z + 1 := ⟨n - 1, by omega⟩
    obtain ⟨o1, o2⟩ := a_odd j (by omega) h0
    obtain ⟨v1, v2⟩ := a_even j (by omega)
    have n20 : ¬ (20 : Int32) < nI (2 * j - 1) := by rw [show (20 : Int32) = nI 20 from rfl]; exact nI_nlt (by omega) (by omega)
    have n21 : ¬ (20 : Int32) < nI (2 * j) := by rw [show (20 : Int32) = nI 20 from rfl]; exact nI_nlt (by omega) (by omega)
    have p1 : nZ ((b : Int) + sf) + nI j = nZ ((b : Int) + sf + (j : Int)) := by rw [← nZ_n, nZ_add]
    have p2 : nZ ((b : Int) + sf) + nZ (-(j : Int)) = nZ ((b : Int) + sf - (j : Int)) := by rw [nZ_add]; rfl
    have bb := hb.1
    have be := hb.2
    unfold lp_X10_applies_1 q_ff
    rw [if_neg n20, if_pos o1, o2, h59, ebs]
    dsimp only [lt_]
    rw [p1, m_fits hy hr hD hlq hos hq h58 hrp (by omega) hb]
    dsimp only [Option.bind]
    by_cases q1 : q_fits ts os rp ((b : Int) + sf + (j : Int)) b e
    · rw [if_pos q1, if_neg (by decide), if_pos q1]
    · rw [if_neg q1, if_pos rfl, if_neg q1, nI_1, show 2 * j - 1 + 1 = 2 * j by omega]
      unfold lp_X10_applies_1
      rw [if_neg n21, if_neg v1, v2, h59, ebs]
      dsimp only [lt_]
      rw [p2, m_fits hy hr hD hlq hos hq h58 hrp (by omega) hb]
      dsimp only [Option.bind]
      by_cases q2 : q_fits ts os rp ((b : Int) + sf - (j : Int)) b e
      · rw [if_pos q2, if_neg (by decide), if_pos q2]
      · rw [if_neg q2, if_pos rfl, if_neg q2, nI_1]
        have := ih (j + 1) n (by omega) (by omega) (by omega)
        rw [show 2 * (j + 1) - 1 = 2 * j + 1 by omega] at this
        exact this
theorem m_app_all (hy : MdAt Y om) {r : Nat} (hr : r < 4) (hD : DR M om r ts) {tq : Nat} (hlq : j_ln Y (om + tq) = 24) (hos : os.length ≤ 24) (hq : RA M (om + tq) os) {rp : Nat} (h58 : M om 58 = nI rp) (hrp : rp < 1000) {sf : Int} (h59 : M om 59 = nZ sf) (hsf : -100 ≤ sf ∧ sf ≤ 100) {b e : Nat} (hb : b ≤ e ∧ e ≤ os.length) :
    lp_X10_applies_1 Y M (nI b) om (nI r) (om + tq) (nI (e - b)) j_fuel 0 = some (match q_ff ts os rp b e ((b : Int) + sf) 11 0 with | none => Sum.inr (0, M) | some p => Sum.inl (nZ p)) := by
  have ebs : nI b + nZ sf = nZ ((b : Int) + sf) := by rw [← nZ_n, nZ_add]
  have hfu : j_fuel = 9999 + 1 := rfl
  have bb := hb.1
  have be := hb.2
  have e0 : (b : Int) + sf + ((0 : Nat) : Int) = (b : Int) + sf := by omega
  have e1 : (b : Int) + sf - ((0 : Nat) : Int) = (b : Int) + sf := by omega
  rw [hfu]
  unfold lp_X10_applies_1 q_ff
  rw [if_neg (by decide), if_neg (by decide), h59, ebs]
  dsimp only [lt_]
  rw [show nZ ((b : Int) + sf) + -(0 : Int32) / 2 = nZ ((b : Int) + sf) from by rw [show -(0 : Int32) / 2 = 0 from by decide, Int32.add_zero], m_fits hy hr hD hlq hos hq h58 hrp (by omega) hb]
  dsimp only [Option.bind]
  rw [e0, e1]
  by_cases q1 : q_fits ts os rp ((b : Int) + sf) b e
  · rw [if_pos q1, if_neg (by decide), if_pos q1]
  · rw [if_neg q1, if_pos rfl, if_neg q1, if_neg q1]
    exact m_app_loop hy hr hD hlq hos hq h58 hrp h59 hsf hb 10 1 9999 (by omega) (by omega) (by omega)
end PMT

/-! ===== pure: patches; the class applies one ===== -/
section PCB
variable {Y : JY} {M : JM} {o : Nat} {xs ys ts : List Int32} {hs : List HK} {q1 : Nat}
/-- what the class's try holds -/
def TA (M : JM) (o : Nat) (st : AS) : Prop := M o 7 = nI st.1 ∧ M o 6 = nZ st.2.1 ∧ LN M (o + 11) 96 st.2.2.1 ∧ TB M (o + 7) 50 2 st.2.2.2
abbrev h_os (xs ys : List Int32) (rv : Bool) : List Int32 := if rv then ys else xs
theorem p_tryLoop (hy : PcAt Y o) (hT : TB M (o + 5) 150 6 (hs.map h_row)) (h1 : LN M (o + 1) 24 xs) (h2 : LN M (o + 3) 24 ys) (hyt : LnAt Y q1 24) (ht : LN M q1 24 ts) {i : Nat} {hk : HK} (hh : hs[i]? = some hk) (hi : i < 100) (hv : HV xs.length ys.length hk) (rv : Bool) {rp : Nat} {sf : Int} (h7 : M o 7 = nI rp) (hrp : rp < 1000) (h6 : M o 6 = nZ sf) (hsf : -100 ≤ sf ∧ sf ≤ 100) {fz : Nat} (hfz : fz ≤ 2) :
    ∀ (d f n : Nat), fz + 1 = f + d → d < n → lp_X6_attemptHunk_1 Y (nI fz) M o (nI i) (if rv then 2 else 0) q1 (if rv then o + 3 else o + 1) n (nI f) =
      some (match q_try ts (h_os xs ys rv) hk rv rp sf d f with
        | none => Sum.inl ()
        | some fp => Sum.inr (nI fp.1, nI (h_ob hk rv fp.1), nI (h_oe hk rv fp.1), nZ fp.2)) := by
  have hx24 := h1.2.1
  have hy24 := h2.2.1
  have ht24 := ht.2.1
  intro d
  induction d with
  | zero =>
    intro f n hf hn
    obtain ⟨n, rfl⟩ : ∃ z, n = z + 1 := ⟨n - 1, by omega⟩
    unfold lp_X6_attemptHunk_1
    rw [if_pos (nI_lt (by omega) (by omega))]
    rfl
  | succ d ih =>
    intro f n hf hn
    obtain ⟨n, rfl⟩ : ∃ z, n = z + 1 := ⟨n - 1, by omega⟩
    have ob := hv.ob rv f
    unfold lp_X6_attemptHunk_1 q_try
    rw [if_neg (nI_nlt (by omega) (by omega)), p_partBegin hy hT hh (by omega) hv hx24 hy24 rv (by omega), p_partEnd hy hT hh (by omega) hv hx24 hy24 rv (by omega)]
    dsimp only [lt_]
    have hfit : s_X6_findFit Y M o q1 (if rv then o + 3 else o + 1) (nI (h_ob hk rv f)) (nI (h_oe hk rv f)) = some (oZ (q_ff ts (h_os xs ys rv) rp (h_ob hk rv f) (h_oe hk rv f) ((h_ob hk rv f : Int) + sf) 11 0)) := by
      cases rv with
      | true => exact p_findFit h7 hrp h6 hsf hyt ht hy.2.1.2 h2 ⟨ob.1, ob.2.1⟩
      | false => exact p_findFit h7 hrp h6 hsf hyt ht hy.1.2 h1 ⟨ob.1, ob.2.1⟩
    rw [hfit]
    dsimp only [Option.bind]
    cases hq : q_ff ts (h_os xs ys rv) rp (h_ob hk rv f) (h_oe hk rv f) ((h_ob hk rv f : Int) + sf) 11 0 with
    | none =>
      rw [if_pos (show oZ none = (-1 : Int32) from rfl), nI_1]
      exact ih (f + 1) n (by omega) (by omega)
    | some p =>
      have hp := q_ff_ok 11 0 p hq
      rw [if_neg (show ¬ oZ (some p) = (-1 : Int32) from nZ_m1 (by omega))]
      rfl
theorem p_attemptHunk (hy : PcAt Y o) (hT : TB M (o + 5) 150 6 (hs.map h_row)) (h1 : LN M (o + 1) 24 xs) (h2 : LN M (o + 3) 24 ys) (hyt : LnAt Y q1 24) (ht : LN M q1 24 ts) (hd : q1 + 2 ≤ o ∨ o + 13 ≤ q1) {i : Nat} {hk : HK} (hh : hs[i]? = some hk) (hi : i < 25) (hv : HV xs.length ys.length hk) (rv : Int32) {fz : Nat} (hfz : fz ≤ 2)
    {st : AS} (hS : TA M o st) {pb : Nat} (hI : AI ts pb i st) (hpb : pb ≤ (if decide (rv ≠ 0) then hk.1 else hk.2.2.1)) :
    ∃ M', s_X6_attemptHunk Y M o q1 (nI i) (nI fz) rv = some M' ∧ (JFr o (o + 13) M M' ∧ JFr (o + 7) (o + 9) M M' ∨ JFr o (o + 13) M M' ∧ ∀ a, o + 1 ≤ a ∧ a < o + 7 → M' a = M a) ∧ TA M' o (q_as ts (h_os xs ys (decide (rv ≠ 0))) (h_os xs ys (!decide (rv ≠ 0))) (decide (rv ≠ 0)) fz hk st) := by
  have hx24 := h1.2.1
  have hy24 := h2.2.1
  have ht24 := ht.2.1
  have hy' := hy
  obtain ⟨⟨y0, z0⟩, ⟨y1, z1⟩, ⟨y2, z2⟩, ⟨y3, z3⟩, ⟨y4, z4⟩, ⟨y5, z5⟩⟩ := hy
  obtain ⟨s1, s2, s3, s4⟩ := hS
  obtain ⟨i1, i2, i3, i4⟩ := hI
  obtain ⟨r, hr⟩ : ∃ z, z = decide (rv ≠ 0) := ⟨_, rfl⟩
  have er : ∀ {α : Type} (a b : α), (if rv = 0 then a else b) = if r then b else a := by
    intro α a b
    by_cases q : rv = 0
    · rw [if_pos q, hr, decide_eq_false (fun c => c q), if_neg (by decide)]
    · rw [if_neg q, hr, decide_eq_true q, if_pos rfl]
  rw [← hr] at hpb ⊢
  have hl := p_tryLoop hy' hT h1 h2 hyt ht hh (by omega) hv r s1 (by omega) s2 i2 hfz (fz + 1) 0 j_fuel (by omega) (j_fuel_gt (by omega))
  unfold s_X6_attemptHunk q_as
  rw [y0, y1, y3, y5]
  dsimp only [lt_]
  rw [er, er]
  rw [nI_0] at hl
  rw [hl]
  dsimp only [Option.bind]
  cases hq : q_try ts (h_os xs ys r) hk r st.1 st.2.1 (fz + 1) 0 with
  | none =>
    dsimp only
    obtain ⟨M1, a1, a2, a3⟩ := p_addPair z3 s4 (by omega) (-1) (-1)
    rw [a1]
    refine ⟨M1, rfl, Or.inl ⟨a2.mono (by omega) (by omega), a2⟩, ?_, ?_, s3.frame a2 (by omega), a3⟩
    · rw [a2 o (by omega)]; exact s1
    · rw [a2 o (by omega)]; exact s2
  | some fp =>
    obtain ⟨f, p⟩ := fp
    obtain ⟨⟨b1, b2, b3⟩, -, bf⟩ := q_try_ok (fz + 1) 0 f p hq
    have o1 := hv.ob r f
    have o2 := hv.ob (!r) f
    obtain ⟨k, rfl⟩ : ∃ k : Nat, p = (k : Int) := ⟨p.toNat, by omega⟩
    dsimp only
    rw [nZ_n, s1, Int.toNat_natCast]
    rw [Int.toNat_natCast] at b3
    have hle : (if r then ys.length else xs.length) ≤ 24 := by split <;> assumption
    have hpb2 : pb ≤ 24 := by
      have h9 : (if r then hk.1 else hk.2.2.1) ≤ 24 := by
        have := hv.1
        have := hv.2.1
        split <;> omega
      omega
    obtain ⟨M1, a1, a2, a3⟩ := p_pushPart z5 s3 hyt ht (by omega) (b := st.1) (e := k) (by omega) (by omega) (by omega)
    rw [a1]
    dsimp only
    have l1 := l_seg_len (ys := ts) (b := st.1) (e := k) (by omega)
    have newp : ∃ M2, s_X6_pushNewPart Y M1 o (nI i) (nI f) rv = some M2 ∧ JFr (o + 11) (o + 13) M1 M2 ∧ LN M2 (o + 11) 96 (st.2.2.1 ++ l_seg ts st.1 k ++ l_seg (h_os xs ys (!r)) (h_ob hk (!r) f) (h_oe hk (!r) f)) := by
      have g1 := p_partBegin hy' (hT.frame a2 (by omega)) hh (by omega) hv hx24 hy24 (!r) (f := f) (by omega)
      have g2 := p_partEnd hy' (hT.frame a2 (by omega)) hh (by omega) hv hx24 hy24 (!r) (f := f) (by omega)
      unfold s_X6_pushNewPart
      rw [y0, y1, y5, er, er]
      dsimp only [lt_]
      have e9 : (if r = true then (0 : Int32) else 2) = (if (!r) = true then 2 else 0) := by cases r <;> rfl
      rw [e9, g1, g2]
      have hlen : st.2.2.1.length ≤ st.1 + 24 := by omega
      cases r with
      | true =>
        obtain ⟨M2, c1, c2, c3⟩ := p_pushPart z5 a3 z0 (h1.frame a2 (by omega)) (by omega) o2.1 o2.2.1 (by
          rw [List.length_append, l1]
          have := o2.2.1
          simp only [Bool.not_true, if_false, Bool.false_eq_true] at this ⊢
          omega)
        rw [if_pos rfl, c1]
        exact ⟨M2, rfl, c2, c3⟩
      | false =>
        obtain ⟨M2, c1, c2, c3⟩ := p_pushPart z5 a3 z1 (h2.frame a2 (by omega)) (by omega) o2.1 o2.2.1 (by
          rw [List.length_append, l1]
          have := o2.2.1
          simp only [Bool.not_false, if_true] at this ⊢
          omega)
        rw [if_neg (by decide), c1]
        exact ⟨M2, rfl, c2, c3⟩
    obtain ⟨M2, c1, c2, c3⟩ := newp
    rw [c1]
    dsimp only
    have f1 : JFr o (o + 1) M2 (j_up M2 o 6 (nI k - nI (h_ob hk r f))) := JFr.up
    have f2 : JFr o (o + 1) (j_up M2 o 6 (nI k - nI (h_ob hk r f))) (j_up (j_up M2 o 6 (nI k - nI (h_ob hk r f))) o 7 (nI k + nI (h_oe hk r f) - nI (h_ob hk r f))) := JFr.up
    obtain ⟨M3, hM3⟩ : ∃ z, z = j_up (j_up M2 o 6 (nI k - nI (h_ob hk r f))) o 7 (nI k + nI (h_oe hk r f) - nI (h_ob hk r f)) := ⟨_, rfl⟩
    have F3 : JFr o (o + 1) M2 M3 := by rw [hM3]; exact f1.trans f2
    rw [← hM3]
    have G3 : JFr (o + 11) (o + 13) M M2 := a2.trans c2
    obtain ⟨M4, d1, d2, d3⟩ := p_addPair z3 ((s4.frame G3 (by omega)).frame F3 (by omega)) (by omega) (nI k) (nI f)
    rw [d1]
    refine ⟨M4, rfl, Or.inr ⟨(G3.mono (by omega) (by omega)).trans ((F3.mono (by omega) (by omega)).trans (d2.mono (by omega) (by omega))), fun a ha => ?_⟩, ?_, ?_, (c3.frame F3 (by omega)).frame d2 (by omega), ?_⟩
    · rw [d2 a (by omega), F3 a (by omega), G3 a (by omega)]
    · rw [d2 o (by omega), hM3, j_up_s]
      rw [nI_add, nI_sb (by omega)]
      congr 1
      omega
    · rw [d2 o (by omega), hM3, j_up_k (by decide), j_up_s, ← nZ_n, ← nZ_n, nZ_sub]
    · rw [nZ_n]
      exact d3
end PCB

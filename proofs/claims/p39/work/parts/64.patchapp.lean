/-! ===== pure: patches; the class applies one ===== -/
/-- what a try leaves as it was -/
def PaFr (o : Nat) (M M' : JM) : Prop := (∀ a, (a < o ∨ (o + 1 ≤ a ∧ a < o + 7) ∨ (o + 9 ≤ a ∧ a < o + 11) ∨ o + 13 ≤ a) → M' a = M a) ∧ M' o 8 = M o 8
theorem PaFr.trans {o : Nat} {M M1 M2 : JM} (h1 : PaFr o M M1) (h2 : PaFr o M1 M2) : PaFr o M M2 := ⟨fun a h => (h2.1 a h).trans (h1.1 a h), h2.2.trans h1.2⟩
theorem PaFr.fr {o : Nat} {M M1 : JM} (h : PaFr o M M1) : JFr o (o + 13) M M1 := fun a q => h.1 a (by omega)
theorem PaFr.LN {o : Nat} {M M1 : JM} (h : PaFr o M M1) {q cap : Nat} {xs : List Int32} (hx : LN M q cap xs) (hd : q + 2 ≤ o ∨ (o + 1 ≤ q ∧ q + 2 ≤ o + 7) ∨ o + 13 ≤ q) : LN M1 q cap xs := by
  obtain ⟨a1, a2, a3⟩ := hx
  refine ⟨by rw [h.1 q (by omega)]; exact a1, a2, fun i hi => ?_⟩
  rw [h.1 (q + 1) (by omega)]
  exact a3 i hi
theorem PaFr.TB {o : Nat} {M M1 : JM} (h : PaFr o M M1) {q cap c : Nat} {rs : List (List Int32)} (hx : TB M q cap c rs) (hd : (o + 1 ≤ q ∧ q + 2 ≤ o + 7) ∨ (o + 9 ≤ q ∧ q + 2 ≤ o + 11)) : TB M1 q cap c rs := by
  obtain ⟨a1, a2, a3, a4, a5⟩ := hx
  refine ⟨by rw [h.1 q (by omega)]; exact a1, by rw [h.1 q (by omega)]; exact a2, a3, fun i hi j hj => ?_, a5⟩
  rw [h.1 (q + 1) (by omega)]
  exact a4 i hi j hj
section PCB
variable {Y : JY} {M : JM} {o : Nat} {xs ys ts : List Int32} {hs : List HK} {q1 : Nat}
/-- what the class's try holds -/
def TA (M : JM) (o : Nat) (st : AS) : Prop := M o 7 = nI st.1 ∧ M o 6 = nZ st.2.1 ∧ LN M (o + 11) 96 st.2.2.1 ∧ TB M (o + 7) 50 2 st.2.2.2
abbrev h_os (xs ys : List Int32) (rv : Bool) : List Int32 := if rv then ys else xs
theorem p_tryLoop (hy : PcAt Y o) (hT : TB M (o + 5) 150 6 (hs.map h_row)) (h1 : LN M (o + 1) 24 xs) (h2 : LN M (o + 3) 24 ys) (hyt : LnAt Y q1 24) (ht : LN M q1 24 ts) {i : Nat} {hk : HK} (hh : hs[i]? = some hk) (hi : i < 100) (hv : HV xs.length ys.length hk) (rv : Bool) {rp : Nat} {sf : Int} (h7 : M o 7 = nI rp) (hrp : rp < 1000) (h6 : M o 6 = nZ sf) (hsf : -100 ≤ sf ∧ sf ≤ 100) {fz : Nat} (hfz : fz ≤ 2) :
    ∀ (d f n : Nat), fz + 1 = f + d → d < n → lp_X6_attemptHunk_1 Y (nI fz) M o (nI i) (if rv then 2 else 0) q1 (if rv then o + 3 else o + 1) n (nI f) =
      some (match q_try ts (h_os xs ys rv) hk rv rp sf d f with
        | none => Sum.inl ()
        | some fp => Sum.inr (nI fp.1, nI (h_ob hk rv fp.1), nI (h_oe hk rv fp.1), nZ fp.2)) := by
  have hx24 := h1.2.1
  have hy24 := h2.2.1
  have ht24 := ht.2.1
  intro d
  induction d with
  | zero =>
    intro f n hf hn
    obtain ⟨n, rfl⟩ : ∃ z, n = z + 1 := ⟨n - 1, by omega⟩
    unfold lp_X6_attemptHunk_1
    rw [if_pos (nI_lt (by omega) (by omega))]
    rfl
  | succ d ih =>
    intro f n hf hn
    obtain ⟨n, rfl⟩ : ∃ z, n = z + 1 := ⟨n - 1, by omega⟩
    have ob := hv.ob rv f
    unfold lp_X6_attemptHunk_1 q_try
    rw [if_neg (nI_nlt (by omega) (by omega)), p_partBegin hy hT hh (by omega) hv hx24 hy24 rv (by omega), p_partEnd hy hT hh (by omega) hv hx24 hy24 rv (by omega)]
    dsimp only [lt_]
    have hfit : s_X6_findFit Y M o q1 (if rv then o + 3 else o + 1) (nI (h_ob hk rv f)) (nI (h_oe hk rv f)) = some (oZ (q_ff ts (h_os xs ys rv) rp (h_ob hk rv f) (h_oe hk rv f) ((h_ob hk rv f : Int) + sf) 11 0)) := by
      cases rv with
      | true => exact p_findFit h7 hrp h6 hsf hyt ht hy.2.1.2 h2 ⟨ob.1, ob.2.1⟩
      | false => exact p_findFit h7 hrp h6 hsf hyt ht hy.1.2 h1 ⟨ob.1, ob.2.1⟩
    rw [hfit]
    dsimp only [Option.bind]
    cases hq : q_ff ts (h_os xs ys rv) rp (h_ob hk rv f) (h_oe hk rv f) ((h_ob hk rv f : Int) + sf) 11 0 with
    | none =>
      rw [if_pos (show oZ none = (-1 : Int32) from rfl), nI_1]
      exact ih (f + 1) n (by omega) (by omega)
    | some p =>
      have hp := q_ff_ok 11 0 p hq
      rw [if_neg (show ¬ oZ (some p) = (-1 : Int32) from nZ_m1 (by omega))]
      rfl
theorem p_attemptHunk (hy : PcAt Y o) (hT : TB M (o + 5) 150 6 (hs.map h_row)) (h1 : LN M (o + 1) 24 xs) (h2 : LN M (o + 3) 24 ys) (hyt : LnAt Y q1 24) (ht : LN M q1 24 ts) (hd : q1 + 2 ≤ o ∨ o + 13 ≤ q1) {i : Nat} {hk : HK} (hh : hs[i]? = some hk) (hi : i < 25) (hv : HV xs.length ys.length hk) (rv : Int32) {fz : Nat} (hfz : fz ≤ 2)
    {st : AS} (hS : TA M o st) {pb : Nat} (hI : AI ts pb i st) (hpb : pb ≤ (if decide (rv ≠ 0) then hk.1 else hk.2.2.1)) :
    ∃ M', s_X6_attemptHunk Y M o q1 (nI i) (nI fz) rv = some M' ∧ PaFr o M M' ∧ TA M' o (q_as ts (h_os xs ys (decide (rv ≠ 0))) (h_os xs ys (!decide (rv ≠ 0))) (decide (rv ≠ 0)) fz hk st) := by
  have hx24 := h1.2.1
  have hy24 := h2.2.1
  have ht24 := ht.2.1
  have hy' := hy
  obtain ⟨⟨y0, z0⟩, ⟨y1, z1⟩, ⟨y2, z2⟩, ⟨y3, z3⟩, ⟨y4, z4⟩, ⟨y5, z5⟩⟩ := hy
  obtain ⟨s1, s2, s3, s4⟩ := hS
  obtain ⟨i1, i2, i3, i4⟩ := hI
  obtain ⟨r, hr⟩ : ∃ z, z = decide (rv ≠ 0) := ⟨_, rfl⟩
  have er : ∀ {α : Type} (a b : α), (if rv = 0 then a else b) = if r then b else a := by
    intro α a b
    by_cases q : rv = 0
    · rw [if_pos q, hr, decide_eq_false (fun c => c q), if_neg (by decide)]
    · rw [if_neg q, hr, decide_eq_true q, if_pos rfl]
  rw [← hr] at hpb ⊢
  have hl := p_tryLoop hy' hT h1 h2 hyt ht hh (by omega) hv r s1 (by omega) s2 i2 hfz (fz + 1) 0 j_fuel (by omega) (j_fuel_gt (by omega))
  unfold s_X6_attemptHunk q_as
  rw [y0, y1, y3, y5]
  dsimp only [lt_]
  rw [er, er]
  rw [nI_0] at hl
  rw [hl]
  dsimp only [Option.bind]
  cases hq : q_try ts (h_os xs ys r) hk r st.1 st.2.1 (fz + 1) 0 with
  | none =>
    dsimp only
    obtain ⟨M1, a1, a2, a3⟩ := p_addPair z3 s4 (by omega) (-1) (-1)
    rw [a1]
    refine ⟨M1, rfl, ⟨fun a ha => a2 a (by omega), by rw [a2 o (by omega)]⟩, ?_, ?_, s3.frame a2 (by omega), a3⟩
    · rw [a2 o (by omega)]; exact s1
    · rw [a2 o (by omega)]; exact s2
  | some fp =>
    obtain ⟨f, p⟩ := fp
    obtain ⟨⟨b1, b2, b3⟩, -, bf⟩ := q_try_ok (fz + 1) 0 f p hq
    have o1 := hv.ob r f
    have o2 := hv.ob (!r) f
    obtain ⟨k, rfl⟩ : ∃ k : Nat, p = (k : Int) := ⟨p.toNat, by omega⟩
    dsimp only
    rw [nZ_n, s1, Int.toNat_natCast]
    rw [Int.toNat_natCast] at b3
    have hle : (if r then ys.length else xs.length) ≤ 24 := by split <;> assumption
    have hpb2 : pb ≤ 24 := by
      have h9 : (if r then hk.1 else hk.2.2.1) ≤ 24 := by
        have := hv.1
        have := hv.2.1
        split <;> omega
      omega
    obtain ⟨M1, a1, a2, a3⟩ := p_pushPart z5 s3 hyt ht (by omega) (b := st.1) (e := k) (by omega) (by omega) (by omega)
    rw [a1]
    dsimp only
    have l1 := l_seg_len (ys := ts) (b := st.1) (e := k) (by omega)
    have newp : ∃ M2, s_X6_pushNewPart Y M1 o (nI i) (nI f) rv = some M2 ∧ JFr (o + 11) (o + 13) M1 M2 ∧ LN M2 (o + 11) 96 (st.2.2.1 ++ l_seg ts st.1 k ++ l_seg (h_os xs ys (!r)) (h_ob hk (!r) f) (h_oe hk (!r) f)) := by
      have g1 := p_partBegin hy' (hT.frame a2 (by omega)) hh (by omega) hv hx24 hy24 (!r) (f := f) (by omega)
      have g2 := p_partEnd hy' (hT.frame a2 (by omega)) hh (by omega) hv hx24 hy24 (!r) (f := f) (by omega)
      unfold s_X6_pushNewPart
      rw [y0, y1, y5, er, er]
      dsimp only [lt_]
      have e9 : (if r = true then (0 : Int32) else 2) = (if (!r) = true then 2 else 0) := by cases r <;> rfl
      rw [e9, g1, g2]
      have hlen : st.2.2.1.length ≤ st.1 + 24 := by omega
      cases r with
      | true =>
        obtain ⟨M2, c1, c2, c3⟩ := p_pushPart z5 a3 z0 (h1.frame a2 (by omega)) (by omega) o2.1 o2.2.1 (by
          rw [List.length_append, l1]
          have := o2.2.1
          simp only [Bool.not_true, if_false, Bool.false_eq_true] at this ⊢
          omega)
        rw [if_pos rfl, c1]
        exact ⟨M2, rfl, c2, c3⟩
      | false =>
        obtain ⟨M2, c1, c2, c3⟩ := p_pushPart z5 a3 z1 (h2.frame a2 (by omega)) (by omega) o2.1 o2.2.1 (by
          rw [List.length_append, l1]
          have := o2.2.1
          simp only [Bool.not_false, if_true] at this ⊢
          omega)
        rw [if_neg (by decide), c1]
        exact ⟨M2, rfl, c2, c3⟩
    obtain ⟨M2, c1, c2, c3⟩ := newp
    rw [c1]
    dsimp only
    have f1 : JFr o (o + 1) M2 (j_up M2 o 6 (nI k - nI (h_ob hk r f))) := JFr.up
    have f2 : JFr o (o + 1) (j_up M2 o 6 (nI k - nI (h_ob hk r f))) (j_up (j_up M2 o 6 (nI k - nI (h_ob hk r f))) o 7 (nI k + nI (h_oe hk r f) - nI (h_ob hk r f))) := JFr.up
    obtain ⟨M3, hM3⟩ : ∃ z, z = j_up (j_up M2 o 6 (nI k - nI (h_ob hk r f))) o 7 (nI k + nI (h_oe hk r f) - nI (h_ob hk r f)) := ⟨_, rfl⟩
    have F3 : JFr o (o + 1) M2 M3 := by rw [hM3]; exact f1.trans f2
    rw [← hM3]
    have G3 : JFr (o + 11) (o + 13) M M2 := a2.trans c2
    obtain ⟨M4, d1, d2, d3⟩ := p_addPair z3 ((s4.frame G3 (by omega)).frame F3 (by omega)) (by omega) (nI k) (nI f)
    rw [d1]
    refine ⟨M4, rfl, ⟨fun a ha => ?_, ?_⟩, ?_, ?_, (c3.frame F3 (by omega)).frame d2 (by omega), ?_⟩
    · rw [d2 a (by omega), F3 a (by omega), G3 a (by omega)]
    · rw [d2 o (by omega), hM3, j_up_k (by decide), j_up_k (by decide), G3 o (by omega)]
    · rw [d2 o (by omega), hM3, j_up_s]
      rw [nI_add, nI_sb (by omega)]
      congr 1
      omega
    · rw [d2 o (by omega), hM3, j_up_k (by decide), j_up_s, ← nZ_n, ← nZ_n, nZ_sub]
    · exact d3
theorem HC.drop {n m : Nat} : ∀ (hs : List HK) (pa pb i : Nat) (h : HK), HC n m pa pb hs → hs[i]? = some h → HV n m h := by
  intro hs
  induction hs with
  | nil => intro pa pb i h _ e; exact absurd e (by simp)
  | cons x hs ih =>
    intro pa pb i h hC e
    obtain ⟨⟨a1, a2⟩, ⟨a3, a4⟩, a5, a6, a7⟩ := hC
    cases i with
    | zero =>
      have : x = h := by simpa using e
      rw [← this]
      exact ⟨a2, a4, a5, a6⟩
    | succ i => exact ih _ _ i h a7 (by simpa using e)
theorem p_attempt_loop (hy : PcAt Y o) (hyt : LnAt Y q1 24) (hd : q1 + 2 ≤ o ∨ o + 13 ≤ q1) (hlen : hs.length ≤ 25) (rv : Int32) {fz : Nat} (hfz : fz ≤ 2) :
    ∀ (d i n : Nat) (M : JM) (st : AS) (pa pb : Nat), hs.length = i + d → d < n → TB M (o + 5) 150 6 (hs.map h_row) → LN M (o + 1) 24 xs → LN M (o + 3) 24 ys → LN M q1 24 ts → TA M o st → AI ts (if decide (rv ≠ 0) then pa else pb) i st → HC xs.length ys.length pa pb (hs.drop i) →
      ∃ M', lp_X6_attempt_1 Y o q1 (nI fz) rv n (nI i) M = some M' ∧ PaFr o M M' ∧ TA M' o (q_att ts (h_os xs ys (decide (rv ≠ 0))) (h_os xs ys (!decide (rv ≠ 0))) (decide (rv ≠ 0)) fz (hs.drop i) st) ∧
        AI ts 24 hs.length (q_att ts (h_os xs ys (decide (rv ≠ 0))) (h_os xs ys (!decide (rv ≠ 0))) (decide (rv ≠ 0)) fz (hs.drop i) st) := by
  have y2 := hy.2.2.1.1
  intro d
  induction d with
  | zero =>
    intro i n M st pa pb hi hn hT h1 h2 ht hS hI hC
    obtain ⟨n, rfl⟩ : ∃ z, n = z + 1 := ⟨n - 1, by omega⟩
    have ei : hs.length = i := by omega
    have hx24 := h1.2.1
    have hy24 := h2.2.1
    rw [List.drop_eq_nil_of_le (by omega)] at hC ⊢
    refine ⟨M, ?_, ⟨fun _ _ => rfl, rfl⟩, hS, hI.1, hI.2.1, ?_, by rw [ei]; exact hI.2.2.2⟩
    · unfold lp_X6_attempt_1
      rw [y2, p_rows hT, List.length_map, if_pos (nI_le (by omega) (by omega))]
    · refine Nat.le_trans hI.2.2.1 (Nat.add_le_add_left ?_ _)
      have c1 := hC.1
      have c2 := hC.2
      split <;> omega
  | succ d ih =>
    intro i n M st pa pb hi hn hT h1 h2 ht hS hI hC
    obtain ⟨n, rfl⟩ : ∃ z, n = z + 1 := ⟨n - 1, by omega⟩
    have hx24 := h1.2.1
    have hy24 := h2.2.1
    have hil : i < hs.length := by omega
    have e := List.drop_eq_getElem_cons hil
    obtain ⟨h, hh⟩ : ∃ z, z = hs[i] := ⟨_, rfl⟩
    have hhi : hs[i]? = some h := by rw [List.getElem?_eq_getElem hil, hh]
    rw [← hh] at e
    rw [e] at hC ⊢
    obtain ⟨⟨c1, c2⟩, ⟨c3, c4⟩, c5, c6, c7⟩ := hC
    have hv : HV xs.length ys.length h := ⟨c2, c4, c5, c6⟩
    obtain ⟨M1, a1, a2, a3⟩ := p_attemptHunk hy hT h1 h2 hyt ht hd hhi (by omega) hv rv hfz hS hI (by split <;> assumption)
    have hI2 := q_as_AI (os := h_os xs ys (decide (rv ≠ 0))) (ns := h_os xs ys (!decide (rv ≠ 0))) (rv := decide (rv ≠ 0)) (fz := fz) hv hx24 hy24 ht.2.1 (by split <;> assumption) hI
    obtain ⟨M', b1, b2, b3, b4⟩ := ih (i + 1) n M1 _ (h.1 + h.2.1) (h.2.2.1 + h.2.2.2.1) (by omega) (by omega) (a2.TB hT (by omega)) (a2.LN h1 (by omega)) (a2.LN h2 (by omega)) (a2.LN ht (by omega)) a3 hI2 c7
    refine ⟨M', ?_, a2.trans b2, b3, b4⟩
    unfold lp_X6_attempt_1
    rw [y2, p_rows hT, List.length_map, if_neg (nI_ge (by omega) (by omega)), a1]
    dsimp only [Option.bind, lt_]
    rw [nI_1]
    exact b1
def q_patch (ts xs ys : List Int32) (hs : List HK) (rv : Bool) (fz : Nat) : AS := q_att ts (h_os xs ys rv) (h_os xs ys (!rv)) rv fz hs (0, 0, [], [])
def q_done (ts xs ys : List Int32) (hs : List HK) (rv : Bool) (fz : Nat) : List Int32 := (q_patch ts xs ys hs rv fz).2.2.1 ++ l_seg ts (q_patch ts xs ys hs rv fz).1 ts.length
theorem p_attempt (hy : PcAt Y o) {kp : List (List Int32)} (hP : PC M o true xs ys hs kp) (hyt : LnAt Y q1 24) (ht : LN M q1 24 ts) (hd : q1 + 2 ≤ o ∨ o + 13 ≤ q1) (rv : Int32) {fz : Nat} (hfz : fz ≤ 2) :
    ∃ M', s_X6_attempt Y M o q1 (nI fz) rv = some (o + 11, M') ∧ PaFr o M M' ∧ LN M' (o + 11) 96 (q_done ts xs ys hs (decide (rv ≠ 0)) fz) ∧ TB M' (o + 7) 50 2 (q_patch ts xs ys hs (decide (rv ≠ 0)) fz).2.2.2 ∧ PC M' o true xs ys hs kp ∧ (q_patch ts xs ys hs (decide (rv ≠ 0)) fz).2.2.2.length = hs.length := by
  have hy' := hy
  obtain ⟨⟨y0, z0⟩, ⟨y1, z1⟩, ⟨y2, z2⟩, ⟨y3, z3⟩, ⟨y4, z4⟩, ⟨y5, z5⟩⟩ := hy
  obtain ⟨p1, p2, p3, p4, p5⟩ := hP
  obtain ⟨u1, u2, u3, u4, u5⟩ := p5 rfl
  have f1 : JFr o (o + 1) M (j_up (j_up M o 6 0) o 7 0) := JFr.up.trans JFr.up
  obtain ⟨M1, hM1⟩ : ∃ z, z = j_up (j_up M o 6 0) o 7 0 := ⟨_, rfl⟩
  rw [← hM1] at f1
  have t2 := p_tclear (Y := Y) (o := o + 7) (cap := 50) (M := M1) (c := 2) (by rw [f1 (o + 7) (by omega)]; exact p3)
  have f2 := p_tclear_fr (Y := Y) (M := M1) (o := o + 7)
  obtain ⟨M2, hM2⟩ : ∃ z, z = s_X8_clear Y M1 (o + 7) := ⟨_, rfl⟩
  rw [← hM2] at t2 f2
  have t3 := p_clear_LN (Y := Y) (M := M2) (o := o + 11) (cap := 96)
  have f3 := p_clear_fr (Y := Y) (M := M2) (o := o + 11)
  obtain ⟨M3, hM3⟩ : ∃ z, z = s_X4_clear Y M2 (o + 11) := ⟨_, rfl⟩
  rw [← hM3] at t3 f3
  have F : PaFr o M M3 := ⟨fun a ha => by rw [f3 a (by omega), f2 a (by omega), f1 a (by omega)], by rw [f3 o (by omega), f2 o (by omega), hM1, j_up_k (by decide), j_up_k (by decide)]⟩
  have hTA : TA M3 o (0, 0, [], []) := by
    refine ⟨?_, ?_, t3, t2.frame f3 (by omega)⟩
    · rw [f3 o (by omega), f2 o (by omega), hM1, j_up_s]
      rfl
    · rw [f3 o (by omega), f2 o (by omega), hM1, j_up_k (by decide), j_up_s]
      rfl
  obtain ⟨M4, a1, a2, a3, a4⟩ := p_attempt_loop hy' hyt hd u4 rv hfz hs.length 0 j_fuel M3 (0, 0, [], []) 0 0 (by omega) (j_fuel_gt (by omega)) (F.TB u5 (by omega)) (F.LN u1 (by omega)) (F.LN u2 (by omega)) (F.LN ht (by omega)) hTA ⟨Nat.zero_le _, by decide, by split <;> exact Nat.zero_le _, rfl⟩ u3
  have a5 : TA M4 o (q_patch ts xs ys hs (decide (rv ≠ 0)) fz) := a3
  have a6 : AI ts 24 hs.length (q_patch ts xs ys hs (decide (rv ≠ 0)) fz) := a4
  obtain ⟨st, hst⟩ : ∃ z, z = q_patch ts xs ys hs (decide (rv ≠ 0)) fz := ⟨_, rfl⟩
  unfold q_done
  rw [← hst] at a5 a6 ⊢
  have hT4 := a2.LN (F.LN ht (by omega)) (by omega)
  have ht24 := ht.2.1
  have i1 := a6.1
  have i3 := a6.2.2.1
  obtain ⟨M5, b1, b2, b3⟩ := p_pushPart z5 a5.2.2.1 hyt hT4 (by omega) (b := st.1) (e := ts.length) i1 (Nat.le_refl _) (by omega)
  have G : PaFr o M M5 := (F.trans a2).trans ⟨fun a ha => b2 a (by omega), by rw [b2 o (by omega)]⟩
  refine ⟨M5, ?_, G, b3, a5.2.2.2.frame b2 (by omega), ⟨by rw [G.2]; exact p1, by rw [G.1 (o + 5) (by omega)]; exact p2, ?_, G.TB p4 (by omega), fun _ => ⟨G.LN u1 (by omega), G.LN u2 (by omega), u3, u4, G.TB u5 (by omega)⟩⟩, a6.2.2.2⟩
  · unfold s_X6_attempt
    rw [y3, y5]
    dsimp only [lt_]
    rw [nI_0] at a1
    rw [← hM1, ← hM2, ← hM3, a1]
    dsimp only [Option.bind]
    rw [a5.1, p_size hT4, b1]
  · exact (a5.2.2.2.frame b2 (by omega)).1
def k_many : List (List Int32) → Nat
  | [] => 0
  | r :: rs => (if (r[0]?).getD (-1) = (-1 : Int32) then 0 else 1) + k_many rs
theorem t_at_get {rs : List (List Int32)} {i j : Nat} (h : i < rs.length) : t_at rs i j = (rs[i][j]?).getD (-1) := by
  unfold t_at
  rw [List.getElem?_eq_getElem h]
  rfl
theorem p_keep_loop (hy : PcAt Y o) {tr : List (List Int32)} (htl : tr.length ≤ 25) : ∀ (d i n acc : Nat) (M : JM), tr.length = i + d → d < n → acc + d ≤ 100 → TB M (o + 7) 50 2 tr → TB M (o + 9) 50 2 (tr.take i) →
    ∃ M', lp_X6_keepOutcomes_1 Y o n (nI acc) (nI i) M = some (nI (acc + k_many (tr.drop i)), M') ∧ JFr (o + 9) (o + 11) M M' ∧ TB M' (o + 9) 50 2 tr := by
  obtain ⟨⟨y0, z0⟩, ⟨y1, z1⟩, ⟨y2, z2⟩, ⟨y3, z3⟩, ⟨y4, z4⟩, ⟨y5, z5⟩⟩ := hy
  intro d
  induction d with
  | zero =>
    intro i n acc M hi hn ha hT hK
    obtain ⟨n, rfl⟩ : ∃ z, n = z + 1 := ⟨n - 1, by omega⟩
    rw [List.take_of_length_le (by omega)] at hK
    refine ⟨M, ?_, JFr.refl, hK⟩
    unfold lp_X6_keepOutcomes_1
    rw [y3, p_rows hT, if_pos (nI_le (by omega) (by omega)), List.drop_eq_nil_of_le (by omega)]
    rfl
  | succ d ih =>
    intro i n acc M hi hn ha hT hK
    obtain ⟨n, rfl⟩ : ∃ z, n = z + 1 := ⟨n - 1, by omega⟩
    have hil : i < tr.length := by omega
    have e := List.drop_eq_getElem_cons hil
    have g : ∀ {N : JM}, TB N (o + 7) 50 2 tr → ∀ j, j < 2 → s_X8_at Y N (o + 7) (nI i) (nI j) = (tr[i][j]?).getD (-1) := fun h j hj => by
      rw [p_tat z3 (by decide) (by decide) h (by omega) (by omega), t_at_get hil]
    have hr : tr[i].length = 2 := hT.2.2.2.2 _ (List.getElem_mem hil)
    have hrow : [(tr[i][0]?).getD (-1), (tr[i][1]?).getD (-1)] = tr[i] := by
      obtain ⟨r, hr9⟩ : ∃ z, z = tr[i] := ⟨_, rfl⟩
      rw [← hr9] at hr ⊢
      match r, hr with
      | [a, b], _ => rfl
    have htk : tr.take (i + 1) = tr.take i ++ [tr[i]] := by rw [List.take_add_one, List.getElem?_eq_getElem hil]; rfl
    have hlt : (tr.take i).length = i := by rw [List.length_take]; omega
    obtain ⟨M1, a1, a2, a3⟩ := p_addPair z4 hK (by rw [hlt]; omega) ((tr[i][0]?).getD (-1)) ((tr[i][1]?).getD (-1))
    rw [hrow, ← htk] at a3
    have hT1 := hT.frame a2 (by omega)
    obtain ⟨M', b1, b2, b3⟩ := ih (i + 1) n (acc + (if (tr[i][0]?).getD (-1) = (-1 : Int32) then 0 else 1)) M1 (by omega) (by omega) (by split <;> omega) hT1 a3
    refine ⟨M', ?_, a2.trans b2, b3⟩
    unfold lp_X6_keepOutcomes_1
    have g0 := g hT 0 (by decide)
    have g1 := g hT 1 (by decide)
    have g2 := g hT1 0 (by decide)
    rw [show nI 0 = (0 : Int32) from rfl] at g0 g2
    rw [show nI 1 = (1 : Int32) from rfl] at g1
    rw [y3, y4, p_rows hT, if_neg (nI_ge (by omega) (by omega)), g0, g1, a1]
    dsimp only [Option.bind, lt_]
    rw [g2, nI_1, nI_1, e]
    unfold k_many
    by_cases q : (tr[i][0]?).getD (-1) = (-1 : Int32)
    · rw [if_pos q] at b1 ⊢
      rw [if_pos q, Nat.zero_add]
      exact b1
    · rw [if_neg q] at b1 ⊢
      rw [if_neg q, b1, Nat.add_assoc]
theorem p_keep (hy : PcAt Y o) {tr kp : List (List Int32)} (htl : tr.length ≤ 25) (hP : PC M o true xs ys hs kp) (hT : TB M (o + 7) 50 2 tr) :
    ∃ M', s_X6_keepOutcomes Y M o = some (nI (k_many tr), M') ∧ JFr (o + 9) (o + 11) M M' ∧ PC M' o true xs ys hs tr := by
  have hy' := hy
  obtain ⟨-, -, -, -, ⟨y4, z4⟩, -⟩ := hy
  obtain ⟨p1, p2, p3, p4, p5⟩ := hP
  obtain ⟨u1, u2, u3, u4, u5⟩ := p5 rfl
  have t2 := p_tclear (Y := Y) (o := o + 9) (cap := 50) (M := M) (c := 2) p4.1
  have f2 := p_tclear_fr (Y := Y) (M := M) (o := o + 9)
  obtain ⟨M1, hM1⟩ : ∃ z, z = s_X8_clear Y M (o + 9) := ⟨_, rfl⟩
  rw [← hM1] at t2 f2
  obtain ⟨M2, a1, a2, a3⟩ := p_keep_loop hy' htl tr.length 0 j_fuel 0 M1 (by omega) (j_fuel_gt (by omega)) (by omega) (hT.frame f2 (by omega)) t2
  have F : JFr (o + 9) (o + 11) M M2 := (f2.mono (by omega) (by omega)).trans a2
  refine ⟨M2, ?_, F, by rw [F o (by omega)]; exact p1, by rw [F (o + 5) (by omega)]; exact p2, by rw [F (o + 7) (by omega)]; exact p3, a3, fun _ => ⟨u1.frame F (by omega), u2.frame F (by omega), u3, u4, u5.frame F (by omega)⟩⟩
  unfold s_X6_keepOutcomes
  rw [y4]
  dsimp only [lt_]
  rw [nI_0, Nat.zero_add] at a1
  rw [← hM1, a1]
  rfl
end PCB

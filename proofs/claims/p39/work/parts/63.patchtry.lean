/-! ===== pure: patches; the class tries one ===== -/
def nZ (z : Int) : Int32 := Int32.ofInt z
theorem nZ_n (n : Nat) : nZ (n : Int) = nI n := Int32.ofInt_eq_ofNat
theorem nZ_add (a b : Int) : nZ a + nZ b = nZ (a + b) := (Int32.ofInt_add a b).symm
theorem nZ_sub (a b : Int) : nZ a - nZ b = nZ (a - b) := (Int32.ofInt_sub a b).symm
theorem nZ_toInt {z : Int} (h : -2147483648 ≤ z ∧ z < 2147483648) : (nZ z).toInt = z := Int32.toInt_ofInt_of_le (by omega) (by omega)
theorem nZ_lt {a b : Int} (ha : -2147483648 ≤ a ∧ a < 2147483648) (hb : -2147483648 ≤ b ∧ b < 2147483648) : nZ a < nZ b ↔ a < b := by
  rw [Int32.lt_iff_toInt_lt, nZ_toInt ha, nZ_toInt hb]
theorem nZ_m1 {a : Int} (ha : 0 ≤ a ∧ a < 2147483648) : ¬ nZ a = -1 := fun c => by
  have := congrArg Int32.toInt c
  rw [nZ_toInt (by omega)] at this
  have h2 : (-1 : Int32).toInt = -1 := by decide
  omega
def oZ : Option Int → Int32
  | none => -1
  | some p => nZ p
abbrev q_fits (ts os : List Int32) (rp : Nat) (p : Int) (b e : Nat) : Prop := (rp : Int) ≤ p ∧ p + ((e : Int) - (b : Int)) ≤ (ts.length : Int) ∧ l_seg ts p.toNat (p.toNat + (e - b)) = l_seg os b e
def q_ff (ts os : List Int32) (rp b e : Nat) (ex : Int) : Nat → Nat → Option Int
  | 0, _ => none
  | d + 1, k => if q_fits ts os rp (ex + (k : Int)) b e then some (ex + (k : Int)) else if q_fits ts os rp (ex - (k : Int)) b e then some (ex - (k : Int)) else q_ff ts os rp b e ex d (k + 1)
theorem q_ff_ok {ts os : List Int32} {rp b e : Nat} {ex : Int} : ∀ (d k : Nat) (p : Int), q_ff ts os rp b e ex d k = some p → q_fits ts os rp p b e := by
  intro d
  induction d with
  | zero => intro k p h; exact absurd h (by simp [q_ff])
  | succ d ih =>
    intro k p h
    unfold q_ff at h
    by_cases q1 : q_fits ts os rp (ex + (k : Int)) b e
    · rw [if_pos q1] at h
      rw [← Option.some.inj h]
      exact q1
    · rw [if_neg q1] at h
      by_cases q2 : q_fits ts os rp (ex - (k : Int)) b e
      · rw [if_pos q2] at h
        rw [← Option.some.inj h]
        exact q2
      · rw [if_neg q2] at h
        exact ih (k + 1) p h
def h_ob (h : HK) (rv : Bool) (f : Nat) : Nat := (if rv then h.2.2.1 else h.1) + min f h.2.2.2.2.1
def h_oe (h : HK) (rv : Bool) (f : Nat) : Nat := (if rv then h.2.2.1 + h.2.2.2.1 else h.1 + h.2.1) - min f h.2.2.2.2.2
def q_try (ts os : List Int32) (h : HK) (rv : Bool) (rp : Nat) (sf : Int) : Nat → Nat → Option (Nat × Int)
  | 0, _ => none
  | d + 1, f => match q_ff ts os rp (h_ob h rv f) (h_oe h rv f) ((h_ob h rv f : Int) + sf) 11 0 with
    | some p => some (f, p)
    | none => q_try ts os h rv rp sf d (f + 1)
abbrev AS : Type := Nat × Int × List Int32 × List (List Int32)
def q_as (ts os ns : List Int32) (rv : Bool) (fz : Nat) (h : HK) (st : AS) : AS := match q_try ts os h rv st.1 st.2.1 (fz + 1) 0 with
  | none => (st.1, st.2.1, st.2.2.1, st.2.2.2 ++ [[-1, -1]])
  | some (f, p) => (p.toNat + (h_oe h rv f - h_ob h rv f), p - (h_ob h rv f : Int), st.2.2.1 ++ l_seg ts st.1 p.toNat ++ l_seg ns (h_ob h (!rv) f) (h_oe h (!rv) f), st.2.2.2 ++ [[nZ p, nI f]])
def q_att (ts os ns : List Int32) (rv : Bool) (fz : Nat) : List HK → AS → AS
  | [], st => st
  | h :: hs, st => q_att ts os ns rv fz hs (q_as ts os ns rv fz h st)
theorem q_try_ok {ts os : List Int32} {h : HK} {rv : Bool} {rp : Nat} {sf : Int} : ∀ (d f0 f : Nat) (p : Int), q_try ts os h rv rp sf d f0 = some (f, p) → q_fits ts os rp p (h_ob h rv f) (h_oe h rv f) ∧ f0 ≤ f ∧ f < f0 + d := by
  intro d
  induction d with
  | zero => intro f0 f p e; exact absurd e (by simp [q_try])
  | succ d ih =>
    intro f0 f p e
    unfold q_try at e
    cases hq : q_ff ts os rp (h_ob h rv f0) (h_oe h rv f0) ((h_ob h rv f0 : Int) + sf) 11 0 with
    | some p' =>
      rw [hq] at e
      have := Option.some.inj e
      have e1 := congrArg Prod.fst this
      have e2 := congrArg Prod.snd this
      dsimp only at e1 e2
      rw [← e1, ← e2]
      exact ⟨q_ff_ok 11 0 p' hq, Nat.le_refl _, by omega⟩
    | none =>
      rw [hq] at e
      have := ih (f0 + 1) f p e
      exact ⟨this.1, by omega, by omega⟩
/-- a hunk within both documents -/
def HV (n m : Nat) (h : HK) : Prop := h.1 + h.2.1 ≤ n ∧ h.2.2.1 + h.2.2.2.1 ≤ m ∧ (h.2.2.2.2.1 + h.2.2.2.2.2 ≤ h.2.1 ∧ h.2.2.2.2.1 + h.2.2.2.2.2 ≤ h.2.2.2.1) ∧ (h.2.2.2.2.1 ≤ 3 ∧ h.2.2.2.2.2 ≤ 3)
theorem HV.ob {n m : Nat} {h : HK} (hv : HV n m h) (rv : Bool) (f : Nat) : h_ob h rv f ≤ h_oe h rv f ∧ h_oe h rv f ≤ (if rv then m else n) ∧ (if rv then h.2.2.1 else h.1) ≤ h_ob h rv f ∧ h_oe h rv f ≤ (if rv then h.2.2.1 + h.2.2.2.1 else h.1 + h.2.1) := by
  obtain ⟨a1, a2, ⟨a3, a4⟩, a5, a6⟩ := hv
  unfold h_ob h_oe
  cases rv with
  | true =>
    simp only [if_true]
    omega
  | false =>
    simp only [if_false, Bool.false_eq_true]
    omega
/-- what a try keeps -/
def AI (ts : List Int32) (pb : Nat) (k : Nat) (st : AS) : Prop := st.1 ≤ ts.length ∧ (-100 ≤ st.2.1 ∧ st.2.1 ≤ 100) ∧ st.2.2.1.length ≤ st.1 + pb ∧ st.2.2.2.length = k
theorem q_as_AI {ts os ns : List Int32} {rv : Bool} {fz n m : Nat} {h : HK} {st : AS} {pb k : Nat} (hv : HV n m h) (hn : n ≤ 24) (hm : m ≤ 24) (ht : ts.length ≤ 24) (hpb : pb ≤ (if rv then h.1 else h.2.2.1)) (hI : AI ts pb k st) : AI ts (if rv then h.1 + h.2.1 else h.2.2.1 + h.2.2.2.1) (k + 1) (q_as ts os ns rv fz h st) := by
  obtain ⟨a1, a2, a3, a4⟩ := hI
  unfold q_as
  cases hq : q_try ts os h rv st.1 st.2.1 (fz + 1) 0 with
  | none =>
    refine ⟨a1, a2, ?_, by simp [a4]⟩
    refine Nat.le_trans a3 (Nat.add_le_add_left ?_ _)
    cases rv with
    | true => simp only [if_true] at hpb ⊢; omega
    | false => simp only [if_false, Bool.false_eq_true] at hpb ⊢; omega
  | some fp =>
    obtain ⟨f, p⟩ := fp
    obtain ⟨⟨b1, b2, b3⟩, -, -⟩ := q_try_ok (fz + 1) 0 f p hq
    have o1 := hv.ob rv f
    have o2 := hv.ob (!rv) f
    have l1 := l_seg_le (xs := ts) (b := st.1) (e := p.toNat)
    have l2 := l_seg_le (xs := ns) (b := h_ob h (!rv) f) (e := h_oe h (!rv) f)
    refine ⟨?_, ?_, ?_, by simp [a4]⟩
    · dsimp only
      omega
    · dsimp only
      have : (if rv then m else n) ≤ 24 := by split <;> assumption
      omega
    · dsimp only
      rw [List.length_append, List.length_append]
      cases rv with
      | true =>
        simp only [if_true, if_false, Bool.not_true, Bool.false_eq_true] at hpb o1 o2 l2 ⊢
        omega
      | false =>
        simp only [if_true, if_false, Bool.not_false, Bool.false_eq_true] at hpb o1 o2 l2 ⊢
        omega
section PCA
variable {Y : JY} {M : JM} {o : Nat} {xs ys ts os ns : List Int32} {hs : List HK} {q1 q2 : Nat}
theorem p_hat (hy : PcAt Y o) (h : TB M (o + 5) 150 6 (hs.map h_row)) {i : Nat} {hk : HK} (hh : hs[i]? = some hk) (hi : i < 1000) {j : Nat} (hj : j < 6) : s_X8_at Y M (o + 5) (nI i) (nI j) = ((h_row hk)[j]?).getD (-1) := by
  have z := hy.2.2.1.2
  rw [p_tat z (by decide) (by decide) h (by omega) (by omega)]
  unfold t_at
  rw [List.getElem?_map, hh]
  rfl
theorem p_partBegin (hy : PcAt Y o) (h : TB M (o + 5) 150 6 (hs.map h_row)) {i : Nat} {hk : HK} (hh : hs[i]? = some hk) (hi : i < 1000) {n m : Nat} (hv : HV n m hk) (hn : n ≤ 24) (hm : m ≤ 24) (rv : Bool) {f : Nat} (hf : f ≤ 100) : s_X6_partBegin Y M o (nI i) (if rv then 2 else 0) (nI f) = nI (h_ob hk rv f) := by
  have g0 : s_X8_at Y M (o + 5) (nI i) (0 : Int32) = nI hk.1 := p_hat hy h hh hi (show 0 < 6 by decide)
  have g2 : s_X8_at Y M (o + 5) (nI i) (2 : Int32) = nI hk.2.2.1 := p_hat hy h hh hi (show 2 < 6 by decide)
  have g4 : s_X8_at Y M (o + 5) (nI i) (4 : Int32) = nI hk.2.2.2.2.1 := p_hat hy h hh hi (show 4 < 6 by decide)
  have hb := hv.2.2.2.1
  unfold s_X6_partBegin h_ob
  rw [hy.2.2.1.1, g4, nI_min (by omega) (by omega)]
  cases rv with
  | true => rw [if_pos rfl, if_pos rfl, g2, nI_add]
  | false => rw [if_neg (by decide), if_neg (by decide), g0, nI_add]
theorem p_partEnd (hy : PcAt Y o) (h : TB M (o + 5) 150 6 (hs.map h_row)) {i : Nat} {hk : HK} (hh : hs[i]? = some hk) (hi : i < 1000) {n m : Nat} (hv : HV n m hk) (hn : n ≤ 24) (hm : m ≤ 24) (rv : Bool) {f : Nat} (hf : f ≤ 100) : s_X6_partEnd Y M o (nI i) (if rv then 2 else 0) (nI f) = nI (h_oe hk rv f) := by
  have g0 : s_X8_at Y M (o + 5) (nI i) (0 : Int32) = nI hk.1 := p_hat hy h hh hi (show 0 < 6 by decide)
  have g1 : s_X8_at Y M (o + 5) (nI i) ((0 : Int32) + (1 : Int32)) = nI hk.2.1 := p_hat hy h hh hi (show 1 < 6 by decide)
  have g2 : s_X8_at Y M (o + 5) (nI i) (2 : Int32) = nI hk.2.2.1 := p_hat hy h hh hi (show 2 < 6 by decide)
  have g3 : s_X8_at Y M (o + 5) (nI i) ((2 : Int32) + (1 : Int32)) = nI hk.2.2.2.1 := p_hat hy h hh hi (show 3 < 6 by decide)
  have g5 : s_X8_at Y M (o + 5) (nI i) (5 : Int32) = nI hk.2.2.2.2.2 := p_hat hy h hh hi (show 5 < 6 by decide)
  obtain ⟨a1, a2, ⟨a3, a4⟩, a5, a6⟩ := hv
  unfold s_X6_partEnd h_oe
  rw [hy.2.2.1.1, g5, nI_min (by omega) (by omega)]
  dsimp only [lt_]
  cases rv with
  | true => rw [if_pos rfl, if_pos rfl, g2, g3, nI_add, nI_sb (by omega)]
  | false => rw [if_neg (by decide), if_neg (by decide), g0, g1, nI_add, nI_sb (by omega)]
theorem p_fits {rp : Nat} (h7 : M o 7 = nI rp) (hrp : rp < 1000) (hy1 : LnAt Y q1 24) (h1 : LN M q1 24 ts) (hy2 : LnAt Y q2 24) (h2 : LN M q2 24 os) {p : Int} (hp : -1000 ≤ p ∧ p ≤ 1000) {b e : Nat} (hb : b ≤ e ∧ e ≤ os.length) :
    s_X6_fits Y M o q1 (nZ p) q2 (nI b) (nI e) = some (if q_fits ts os rp p b e then 1 else 0) := by
  have e1 := h1.2.1
  have e2 := h2.2.1
  unfold s_X6_fits
  rw [h7, p_size h1, ← nZ_n b, ← nZ_n e, ← nZ_n rp, ← nZ_n ts.length, nZ_add, nZ_sub]
  dsimp only [lt_]
  by_cases q1 : (rp : Int) ≤ p ∧ p + ((e : Int) - (b : Int)) ≤ (ts.length : Int)
  · have hc : ¬ (nZ p < nZ (rp : Int) ∨ nZ (ts.length : Int) < nZ (p + (e : Int) - (b : Int))) := by
      rw [nZ_lt (by omega) (by omega), nZ_lt (by omega) (by omega)]
      omega
    obtain ⟨k, rfl⟩ : ∃ k : Nat, p = (k : Int) := ⟨p.toNat, by omega⟩
    have e3 : (k : Int) + (e : Int) - (b : Int) = ((k + (e - b) : Nat) : Int) := by omega
    rw [if_neg hc, e3, nZ_n, nZ_n, nZ_n, nZ_n, p_samePart hy1 h1 hy2 h2 (by omega) (by omega) hb.1 hb.2]
    dsimp only [Option.bind]
    by_cases q2 : l_seg ts k (k + (e - b)) = l_seg os b e
    · rw [if_pos q2, if_neg (by decide), if_pos ⟨q1.1, q1.2, by rw [Int.toNat_natCast]; exact q2⟩]
    · rw [if_neg q2, if_pos rfl, if_neg (fun c => q2 (by have := c.2.2; rw [Int.toNat_natCast] at this; exact this))]
  · have hc : nZ p < nZ (rp : Int) ∨ nZ (ts.length : Int) < nZ (p + (e : Int) - (b : Int)) := by
      rw [nZ_lt (by omega) (by omega), nZ_lt (by omega) (by omega)]
      omega
    rw [if_pos hc, if_neg (fun c => q1 ⟨c.1, c.2.1⟩)]
theorem p_findFit {rp : Nat} (h7 : M o 7 = nI rp) (hrp : rp < 1000) {sf : Int} (h6 : M o 6 = nZ sf) (hsf : -100 ≤ sf ∧ sf ≤ 100) (hy1 : LnAt Y q1 24) (h1 : LN M q1 24 ts) (hy2 : LnAt Y q2 24) (h2 : LN M q2 24 os) {b e : Nat} (hb : b ≤ e ∧ e ≤ os.length) :
    s_X6_findFit Y M o q1 q2 (nI b) (nI e) = some (oZ (q_ff ts os rp b e ((b : Int) + sf) 11 0)) := by
  have e2 := h2.2.1
  obtain ⟨ex, hex⟩ : ∃ z, z = (b : Int) + sf := ⟨_, rfl⟩
  have loop : ∀ (d k n : Nat), 11 = k + d → d < n → ∃ v, lp_X6_findFit_1 Y M o q1 (nZ ex) q2 (nI b) (nI e) n (nI k) = some v ∧ (match v with | Sum.inl x => (some (nZ ex + x)) | Sum.inr y => (match y with | Sum.inl x => (some (nZ ex - x)) | Sum.inr x => (some x))) = some (oZ (q_ff ts os rp b e ex d k)) := by
    intro d
    induction d with
    | zero =>
      intro k n hk hn
      obtain ⟨n, rfl⟩ : ∃ z, n = z + 1 := ⟨n - 1, by omega⟩
      refine ⟨Sum.inr (Sum.inr (-1)), ?_, rfl⟩
      unfold lp_X6_findFit_1
      rw [if_pos (by rw [show (10 : Int32) = nI 10 from rfl]; exact nI_lt (by omega) (by omega))]
    | succ d ih =>
      intro k n hk hn
      obtain ⟨n, rfl⟩ : ∃ z, n = z + 1 := ⟨n - 1, by omega⟩
      have e10 : ¬ (10 : Int32) < nI k := by rw [show (10 : Int32) = nI 10 from rfl]; exact nI_nlt (by omega) (by omega)
      have a1 : nZ ex + nI k = nZ (ex + (k : Int)) := by rw [← nZ_n, nZ_add]
      have a2 : nZ ex - nI k = nZ (ex - (k : Int)) := by rw [← nZ_n, nZ_sub]
      unfold lp_X6_findFit_1 q_ff
      rw [if_neg e10, a1, p_fits h7 hrp hy1 h1 hy2 h2 (by omega) hb]
      dsimp only [Option.bind]
      by_cases c1 : q_fits ts os rp (ex + (k : Int)) b e
      · rw [if_pos c1, if_neg (by decide), if_pos c1]
        exact ⟨_, rfl, by dsimp only; rw [a1]; rfl⟩
      · rw [if_neg c1, if_pos rfl, a2, p_fits h7 hrp hy1 h1 hy2 h2 (by omega) hb, if_neg c1]
        dsimp only
        by_cases c2 : q_fits ts os rp (ex - (k : Int)) b e
        · rw [if_pos c2, if_neg (by decide), if_pos c2]
          exact ⟨_, rfl, by dsimp only; rw [a2]; rfl⟩
        · rw [if_neg c2, if_pos rfl, if_neg c2]
          dsimp only [lt_]
          rw [nI_1]
          exact ih (k + 1) n (by omega) (by omega)
  obtain ⟨v, c1, c2⟩ := loop 11 0 j_fuel (by omega) (by unfold j_fuel; omega)
  unfold s_X6_findFit
  rw [h6, ← hex, show nI b + nZ sf = nZ ex from by rw [← nZ_n, nZ_add, hex]]
  dsimp only [lt_]
  rw [nI_0] at c1
  rw [c1]
  exact c2
end PCA

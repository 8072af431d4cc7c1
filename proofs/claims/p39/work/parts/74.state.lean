/-! ===== pure: the class between two calls: its parts, and what a call may change ===== -/
/-- objects of some parts, fields of the class itself -/
def CF (ps : List (Nat × Nat)) (F0 : List Nat) (M M1 : JM) : Prop := (∀ a, a ≠ 0 → (∀ p ∈ ps, a < p.1 ∨ p.2 ≤ a) → M1 a = M a) ∧ ∀ k, k ∉ F0 → M1 0 k = M 0 k
theorem CF.refl {ps : List (Nat × Nat)} {F0 : List Nat} {M : JM} : CF ps F0 M M := ⟨fun _ _ _ => rfl, fun _ _ => rfl⟩
theorem CF.trans {ps : List (Nat × Nat)} {F0 : List Nat} {M M1 M2 : JM} (h1 : CF ps F0 M M1) (h2 : CF ps F0 M1 M2) : CF ps F0 M M2 := ⟨fun a x w => (h2.1 a x w).trans (h1.1 a x w), fun k x => (h2.2 k x).trans (h1.2 k x)⟩
theorem CF.of {ps : List (Nat × Nat)} {F0 : List Nat} {M M1 : JM} {lo hi : Nat} (h : JFr lo hi M M1) (hp : (lo, hi) ∈ ps) (h1 : 1 ≤ lo) : CF ps F0 M M1 := ⟨fun a _ w => h a (w _ hp), fun k _ => congrFun (h 0 (by omega)) k⟩
theorem CF.root {ps : List (Nat × Nat)} {F0 : List Nat} {M : JM} {k : Nat} {v : Int32} (hk : k ∈ F0) : CF ps F0 M (j_up M 0 k v) := ⟨fun a x _ => j_up_o x, fun j hj => j_up_k (fun e => hj (by rw [e]; exact hk))⟩
theorem CF.wide {ps qs : List (Nat × Nat)} {F0 F1 : List Nat} {M M1 : JM} (h : CF ps F0 M M1) (hp : ∀ p ∈ ps, p ∈ qs) (hf : ∀ k ∈ F0, k ∈ F1) : CF qs F1 M M1 := ⟨fun a x w => h.1 a x (fun p hq => w p (hp p hq)), fun k hk => h.2 k (fun c => hk (hf k c))⟩
def cfd (ps : List (Nat × Nat)) (lo hi : Nat) : Bool := ps.all (fun p => (decide (p.2 ≤ lo) || decide (hi ≤ p.1)) && decide (p.2 ≤ 140))
theorem CF.mid {ps : List (Nat × Nat)} {F0 : List Nat} {M M1 : JM} (h : CF ps F0 M M1) {lo hi : Nat} (hd : cfd ps lo hi = true) (hlo : 1 ≤ lo) (hhi : hi ≤ 140) (hlh : lo ≤ hi) : ∃ N, JFr 0 lo M N ∧ JFr hi 140 N M1 := by
  unfold cfd at hd
  simp only [List.all_eq_true, Bool.and_eq_true, Bool.or_eq_true, decide_eq_true_eq] at hd
  refine ⟨fun a => if a < lo then M1 a else M a, fun a ha => ?_, fun a ha => ?_⟩
  · show (if a < lo then M1 a else M a) = M a
    rw [if_neg (by omega)]
  · show M1 a = (if a < lo then M1 a else M a)
    by_cases q : a < lo
    · rw [if_pos q]
    · rw [if_neg q]
      refine h.1 a (by omega) (fun p hp => ?_)
      have := hd p hp
      omega
/-- objects that are not the class's stay -/
theorem CF.out {ps : List (Nat × Nat)} {F0 : List Nat} {M M1 : JM} (h : CF ps F0 M M1) (hd : cfd ps 139 140 = true ∨ (∀ p ∈ ps, p.2 ≤ 140)) {a : Nat} (ha : 140 ≤ a) : M1 a = M a := by
  have hp : ∀ p ∈ ps, p.2 ≤ 140 := by
    rcases hd with hd | hd
    · unfold cfd at hd
      simp only [List.all_eq_true, Bool.and_eq_true, decide_eq_true_eq] at hd
      exact fun p h => (hd p h).2
    · exact hd
  exact h.1 a (by omega) (fun p h => Or.inr (by have := hp p h; omega))
section CFS
variable {ps : List (Nat × Nat)} {F0 : List Nat} {M M1 : JM}
theorem CM.cf {mk : Bool} {xs ys : List Int32} {P : List (Nat × Nat)} {anc : Nat} {mv : List (List Int32)} (h : CM M 66 mk xs ys P anc mv) (hc : CF ps F0 M M1) (hd : cfd ps 66 92 = true) : CM M1 66 mk xs ys P anc mv := by
  obtain ⟨N, n1, n2⟩ := hc.mid hd (by decide) (by decide) (by decide)
  exact (h.frame n1 (by decide)).frame n2 (by decide)
theorem MG.cf {mk : Bool} {bs ls rs : List Int32} {cs : List CK} {cf : Nat → Int32} (h : MG M 92 mk bs ls rs cs cf) (hc : CF ps F0 M M1) (hd : cfd ps 92 127 = true) : MG M1 92 mk bs ls rs cs cf := by
  obtain ⟨N, n1, n2⟩ := hc.mid hd (by decide) (by decide) (by decide)
  exact (h.frame n1 (by decide)).frame n2 (by decide)
theorem PC.cf {mk : Bool} {xs ys : List Int32} {hs : List HK} {kp : List (List Int32)} (h : PC M 127 mk xs ys hs kp) (hc : CF ps F0 M M1) (hd : cfd ps 127 140 = true) : PC M1 127 mk xs ys hs kp := by
  obtain ⟨N, n1, n2⟩ := hc.mid hd (by decide) (by decide) (by decide)
  exact (h.frame n1 (by decide)).frame n2 (by decide)
theorem SH.cf1 {ds : Nat → List Int32} (h : SH M 1 4 ds) (hc : CF ps F0 M M1) (hd : cfd ps 1 13 = true) : SH M1 1 4 ds := by
  obtain ⟨N, n1, n2⟩ := hc.mid hd (by decide) (by decide) (by decide)
  exact (h.frame n1 (by decide)).frame n2 (by decide)
theorem SH.cf13 {ds : Nat → List Int32} (h : SH M 13 4 ds) (hc : CF ps F0 M M1) (hd : cfd ps 13 25 = true) : SH M1 13 4 ds := by
  obtain ⟨N, n1, n2⟩ := hc.mid hd (by decide) (by decide) (by decide)
  exact (h.frame n1 (by decide)).frame n2 (by decide)
theorem HS.cf {hs : List (Nat × List Int32)} (h : HS M 25 hs) (hc : CF ps F0 M M1) (hd : cfd ps 25 48 = true) : HS M1 25 hs := by
  obtain ⟨N, n1, n2⟩ := hc.mid hd (by decide) (by decide) (by decide)
  exact (h.frame n1 (by decide)).frame n2 (by decide)
theorem LN.cf49 {xs : List Int32} (h : LN M 49 50 xs) (hc : CF ps F0 M M1) (hd : cfd ps 49 51 = true) : LN M1 49 50 xs := by
  obtain ⟨N, n1, n2⟩ := hc.mid hd (by decide) (by decide) (by decide)
  exact (h.frame n1 (by decide)).frame n2 (by decide)
theorem LN.cf53 {xs : List Int32} (h : LN M 53 24 xs) (hc : CF ps F0 M M1) (hd : cfd ps 53 55 = true) : LN M1 53 24 xs := by
  obtain ⟨N, n1, n2⟩ := hc.mid hd (by decide) (by decide) (by decide)
  exact (h.frame n1 (by decide)).frame n2 (by decide)
end CFS
/-- what holds between calls of documents, modes, input: mode, shrinking, documents, history, input, what is saved -/
def ST (M : JM) (md sh : Int32) (ds : Nat → List Int32) (hs : List (Nat × List Int32)) (tp : List Int32) (es : Nat → List Int32) (sm sv : Int32) : Prop :=
  (M 0 9 = md ∧ M 0 12 = sh ∧ M 0 10 = sm ∧ M 0 11 = sv) ∧ SH M 1 4 ds ∧ SH M 13 4 es ∧ HS M 25 hs ∧ LN M 49 50 tp ∧ ∃ xs, LN M 53 24 xs
theorem ST.k {ps : List (Nat × Nat)} {F0 : List Nat} {M M1 : JM} {md sh : Int32} {ds : Nat → List Int32} {hs : List (Nat × List Int32)} {tp : List Int32} {es : Nat → List Int32} {sm sv : Int32} (h : ST M md sh ds hs tp es sm sv) (hc : CF ps F0 M M1) (h0 : (F0.contains 9 || F0.contains 12 || F0.contains 10 || F0.contains 11) = false) (h1 : cfd ps 1 13 = true) (h2 : cfd ps 13 25 = true) (h3 : cfd ps 25 48 = true) (h4 : cfd ps 49 51 = true) (h5 : cfd ps 53 55 = true) : ST M1 md sh ds hs tp es sm sv := by
  obtain ⟨⟨a1, a2, a3, a4⟩, b, c, d, e, xs, f⟩ := h
  simp only [Bool.or_eq_false_iff, List.contains_eq_mem, decide_eq_false_iff_not] at h0
  refine ⟨⟨?_, ?_, ?_, ?_⟩, b.cf1 hc h1, c.cf13 hc h2, d.cf hc h3, e.cf49 hc h4, xs, f.cf53 hc h5⟩
  · rw [hc.2 9 h0.1.1.1]; exact a1
  · rw [hc.2 12 h0.1.1.2]; exact a2
  · rw [hc.2 10 h0.1.2]; exact a3
  · rw [hc.2 11 h0.2]; exact a4
/-- where all lies -/
def YH (Y : JY) : Prop := (j_rf Y 0 0 = 1 ∧ ShAt Y 1 4) ∧ (j_rf Y 0 1 = 13 ∧ ShAt Y 13 4) ∧ (j_rf Y 0 2 = 25 ∧ HsAt Y 25) ∧ (j_rf Y 0 3 = 48 ∧ InAt Y 48) ∧ (j_rf Y 0 4 = 53 ∧ LnAt Y 53 24) ∧ (j_rf Y 0 6 = 66 ∧ CmAt Y 66) ∧ (j_rf Y 0 7 = 92 ∧ MgAt Y 92) ∧ (j_rf Y 0 8 = 127 ∧ PcAt Y 127)
section RLD
variable {Y : JY} {M : JM}
theorem h_doc (hY : YH Y) {r : Nat} (hr : r < 4) : s_X9_document Y M 0 (nI r) = some (1 + 4 + 2 * r) := by
  unfold s_X9_document
  rw [if_neg (by
    rintro (c | c)
    · exact nI_pos (by omega) c
    · exact c (by rw [show (4 : Int32) = nI 4 from rfl]; exact nI_lt hr (by omega))), hY.1.1, p_place hY.1.2 hr]
theorem h_line {w : Nat} (h : w ≤ 25) : s_X9_requireLine Y M (nI w) = some () := by
  unfold s_X9_requireLine
  rw [if_neg]
  rintro (c | c)
  · exact nI_pos (by omega) c
  · exact c (by rw [show (25 : Int32) = nI 25 from rfl]; exact nI_le h (by omega))
theorem h_room {q : Nat} {xs : List Int32} (h : LN M q 24 xs) (hl : xs.length < 24) : s_X9_requireRoom Y M q = some () := by
  unfold s_X9_requireRoom
  rw [p_size h, if_pos (by rw [show (24 : Int32) = nI 24 from rfl]; exact nI_lt hl (by omega))]
theorem h_has {o cap : Nat} {xs : List Int32} (hy : LnAt Y o cap) (h : LN M o cap xs) {i : Nat} (hi : i < xs.length) : ¬ s_X4_has Y M o (nI i) = 0 := by
  have h2 := h.2.1
  have h3 := hy.2.2
  rw [p_has hy h, if_pos ⟨nI_pos (by omega), by rw [nI_clamp (by omega)]; exact hi⟩]
  decide
theorem h_hasRow {o cap c : Nat} {rs : List (List Int32)} (hy : TbAt Y o cap) (hc : 0 < c) (h : TB M o cap c rs) {i : Nat} (hi : i < rs.length) : ¬ s_X8_hasRow Y M o (nI i) = 0 := by
  have h2 := h.2.2.1
  have h3 := hy.2.2
  have h4 : rs.length ≤ rs.length * c := Nat.le_mul_of_pos_right _ hc
  rw [p_hasRow hy hc h, if_pos ⟨nI_pos (by omega), by rw [nI_clamp (by omega)]; exact hi⟩]
  decide
theorem h_prop {o cap c : Nat} {rs : List (List Int32)} (hy : TbAt Y o cap) (hc : 0 < c) (hc9 : c < 1000) (h : TB M o cap c rs) {i j : Nat} (hi : i < rs.length) (hj : j < c) : s_X9_property Y M o (nI i) (nI j) (nI c) = some (t_at rs i j) := by
  have h2 := h.2.2.1
  have h3 := hy.2.2
  have h4 : rs.length ≤ rs.length * c := Nat.le_mul_of_pos_right _ hc
  unfold s_X9_property
  rw [if_neg (h_hasRow hy hc h hi), if_neg, p_tat hy hc hc9 h (by omega) (by omega)]
  rintro (c | c)
  · exact nI_pos (by omega) c
  · exact c (nI_lt hj (by omega))
end RLD

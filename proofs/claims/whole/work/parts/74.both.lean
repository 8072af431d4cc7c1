/-! ===== pure: class and model together: what holds between two calls ===== -/
theorem HM.q {M M' : JM} {om : Nat} {hs : List (Nat × List Int32)} (h : HM M om hs) (g : ∀ t ∈ [4, 5, 6], M' (om + t) = M (om + t)) (f : M' om 10 = M om 10) : HM M' om hs := by
  obtain ⟨a1, a2, a3⟩ := h
  refine ⟨by rw [f]; exact a1, a2, fun k r xs hk => ?_⟩
  rw [g 4 (by decide), g 5 (by decide), g 6 (by decide)]
  exact a3 k r xs hk
theorem TP.q {M M' : JM} {om : Nat} {tp : List Int32} (h : TP M om tp) (g : M' (om + 3) = M (om + 3)) (f : M' om 6 = M om 6) : TP M' om tp := ⟨by rw [f]; exact h.1, h.2.1, h.2.2.eq g⟩
theorem CMm.q {M M' : JM} {om : Nat} {mk : Bool} {xs ys : List Int32} {P : List (Nat × Nat)} {anc : Nat} {mv : List (List Int32)} (h : CMm M om mk xs ys P anc mv) (g : ∀ t ∈ [15, 16, 17, 18, 19], M' (om + t) = M (om + t)) (f : ∀ k ∈ [25, 27, 29, 31, 33, 35], M' om k = M om k) : CMm M' om mk xs ys P anc mv := by
  obtain ⟨a1, a2, a3, a4, a5⟩ := h
  refine ⟨by rw [f 25 (by decide)]; exact a1, by rw [f 33 (by decide)]; exact a2, a3.eq (g 18 (by decide)), a4, fun e => ?_⟩
  obtain ⟨b1, b2, b3, b4, b5, b6, b7, b8, b9, b10, b11⟩ := a5 e
  exact ⟨b1, b2, b3, by rw [f 27 (by decide)]; exact b4, by rw [f 29 (by decide)]; exact b5, b6.eq (g 15 (by decide)), b7.eq (g 16 (by decide)), b8.eq (g 17 (by decide)), by rw [f 31 (by decide)]; exact b9, by rw [f 35 (by decide)]; exact b10, b11.eq (g 19 (by decide))⟩
theorem MGm.q {M M' : JM} {om : Nat} {mk : Bool} {bs ls rs : List Int32} {cs : List CK} {cf : Nat → Int32} (h : MGm M om mk bs ls rs cs cf) (g : ∀ t ∈ [22, 23, 24, 27, 28], M' (om + t) = M (om + t)) (f : ∀ k ∈ [38, 40, 42, 44, 48, 50], M' om k = M om k) : MGm M' om mk bs ls rs cs cf := by
  obtain ⟨a1, a2⟩ := h
  refine ⟨by rw [f 38 (by decide)]; exact a1, fun e => ?_⟩
  obtain ⟨b1, b2, b3, b4, b5, b6, b7, b8, b9, b10, b11⟩ := a2 e
  exact ⟨b1, by rw [f 40 (by decide)]; exact b2, by rw [f 42 (by decide)]; exact b3, by rw [f 44 (by decide)]; exact b4, b5.eq (g 22 (by decide)), b6.eq (g 23 (by decide)), b7.eq (g 24 (by decide)), by rw [f 48 (by decide)]; exact b8, b9.eq (g 27 (by decide)), by rw [f 50 (by decide)]; exact b10, fun t r ht => by rw [g 28 (by decide)]; exact b11 t r ht⟩
theorem PCm.q {M M' : JM} {om : Nat} {mk : Bool} {xs ys : List Int32} {hs : List HK} {kp : List (List Int32)} (h : PCm M om mk xs ys hs kp) (g : ∀ t ∈ [29, 30, 31, 32], M' (om + t) = M (om + t)) (f : ∀ k ∈ [51, 53, 56], M' om k = M om k) : PCm M' om mk xs ys hs kp := by
  obtain ⟨a1, a2, a3⟩ := h
  refine ⟨by rw [f 51 (by decide)]; exact a1, fun e => by rw [f 56 (by decide)]; exact a2 e, fun e => ?_⟩
  obtain ⟨b1, b2, b3, b4, b5, b6⟩ := a3 e
  refine ⟨b1, by rw [f 53 (by decide)]; exact b2, b3.eq (g 29 (by decide)), b4.eq (g 30 (by decide)), b5.eq (g 31 (by decide)), ?_⟩
  rw [f 56 (by decide)]
  rcases b6 with b6 | ⟨b6, b7, b8⟩
  · exact Or.inl b6
  · exact Or.inr ⟨b6, b7, b8.eq (g 32 (by decide))⟩
/-- what a call of the class may change: objects of some parts, fields of the class itself, and what goes out -/
def CF (ps : List (Nat × Nat)) (F0 : List Nat) (M M1 : JM) : Prop := (∀ a, a ≠ 0 → a ≠ 174 → a ≠ 175 → (∀ p ∈ ps, a < p.1 ∨ p.2 ≤ a) → M1 a = M a) ∧ ∀ k, k ∉ F0 → M1 0 k = M 0 k
theorem CF.refl {ps : List (Nat × Nat)} {F0 : List Nat} {M : JM} : CF ps F0 M M := ⟨fun _ _ _ _ _ => rfl, fun _ _ => rfl⟩
theorem CF.trans {ps : List (Nat × Nat)} {F0 : List Nat} {M M1 M2 : JM} (h1 : CF ps F0 M M1) (h2 : CF ps F0 M1 M2) : CF ps F0 M M2 := ⟨fun a x y z w => (h2.1 a x y z w).trans (h1.1 a x y z w), fun k x => (h2.2 k x).trans (h1.2 k x)⟩
theorem CF.of {ps : List (Nat × Nat)} {F0 : List Nat} {M M1 : JM} {lo hi : Nat} (h : JFr lo hi M M1) (hp : (lo, hi) ∈ ps) (h1 : 1 ≤ lo) : CF ps F0 M M1 := ⟨fun a _ _ _ w => h a (w _ hp), fun k _ => congrFun (h 0 (by omega)) k⟩
theorem CF.root {ps : List (Nat × Nat)} {F0 : List Nat} {M : JM} {k : Nat} {v : Int32} (hk : k ∈ F0) : CF ps F0 M (j_up M 0 k v) := ⟨fun a x _ _ _ => j_up_o x, fun j hj => j_up_k (fun e => hj (by rw [e]; exact hk))⟩
theorem CF.out {ps : List (Nat × Nat)} {F0 : List Nat} {M : JM} {k : Nat} {v : Int32} : CF ps F0 M (j_up M 174 k v) := ⟨fun a _ y _ _ => j_up_o y, fun j _ => congrFun (j_up_o (by decide)) j⟩
theorem CF.outD {ps : List (Nat × Nat)} {F0 : List Nat} {M : JM} {k : Nat} {w : UInt64} : CF ps F0 M (j_upd M 175 k w) := ⟨fun a _ _ y _ => (j_up_o y).trans (j_up_o y), fun j _ => (congrFun (j_up_o (by decide)) j).trans (congrFun (j_up_o (by decide)) j)⟩
section RLS
variable {M M1 M2 : JM} {ps : List (Nat × Nat)} {F0 A F : List Nat}
/-- a part that no change touches -/
def kk (ps : List (Nat × Nat)) (F0 A F : List Nat) (lo hi : Nat) (f0 rows flds : List Nat) : Bool :=
  ps.all (fun p => (decide (p.2 ≤ lo) || decide (hi ≤ p.1)) && decide (p.2 ≤ 140)) && f0.all (fun k => !F0.contains k) && rows.all (fun t => !A.contains t && (decide (t ≠ 0) && decide (t < 34))) && flds.all (fun k => !F.contains k) && A.all (fun t => decide (t < 34) && decide (t ≠ 0))
theorem kk_use (hc : CF ps F0 M M1) (hm : MF 140 A F M1 M2) {lo hi : Nat} {f0 rows flds : List Nat} (h : kk ps F0 A F lo hi f0 rows flds = true) (hlo : 1 ≤ lo) (hhi : hi ≤ 140) :
    (∃ N, JFr 0 lo M N ∧ JFr hi 176 N M2) ∧ (∀ k ∈ f0, M2 0 k = M 0 k) ∧ (∀ t ∈ rows, M2 (140 + t) = M (140 + t)) ∧ (∀ k ∈ flds, M2 140 k = M 140 k) := by
  unfold kk at h
  simp only [Bool.and_eq_true, List.all_eq_true, Bool.or_eq_true, decide_eq_true_eq, Bool.not_eq_true', List.contains_eq_mem, decide_eq_false_iff_not] at h
  obtain ⟨⟨⟨⟨h1, h2⟩, h3⟩, h4⟩, h5⟩ := h
  have hcls : ∀ a, a < 140 → M2 a = M1 a := fun a ha => hm.cls (fun t ht => (h5 t ht).1) (Or.inl ha)
  have hcla : ∀ a, 174 ≤ a → M2 a = M1 a := fun a ha => hm.cls (fun t ht => (h5 t ht).1) (Or.inr ha)
  have hcf : ∀ a, 140 ≤ a → a ≠ 174 → a ≠ 175 → M1 a = M a := fun a ha x y => hc.1 a (by omega) x y (fun p hp => Or.inr (by have := (h1 p hp).2; omega))
  refine ⟨⟨fun a => if a < lo then M2 a else M a, fun a ha => ?_, fun a ha => ?_⟩, fun k hk => ?_, fun t ht => ?_, fun k hk => ?_⟩
  · show (if a < lo then M2 a else M a) = M a
    rw [if_neg (by omega)]
  · show M2 a = (if a < lo then M2 a else M a)
    by_cases q : a < lo
    · rw [if_pos q]
    · rw [if_neg q]
      by_cases q2 : a < hi
      · rw [hcls a (by omega)]
        exact hc.1 a (by omega) (by omega) (by omega) (fun p hp => by have := (h1 p hp).1; omega)
      · rw [hcla a (by omega)]
        exact hcf a (by omega) (by omega) (by omega)
  · rw [hcls 0 (by decide)]
    exact hc.2 k (h2 k hk)
  · have q := (h3 t ht).2.2
    rw [hm.arr (h3 t ht).1 (h3 t ht).2.1, hcf _ (by omega) (by omega) (by omega)]
  · rw [hm.fld (h4 k hk) (fun q => (h5 0 q).2 rfl), hcf 140 (by decide) (by decide) (by decide)]
def R0 (M : JM) : Prop := M 0 9 = M 140 3 ∧ (M 0 9 = 0 ∨ M 0 9 = 1) ∧ M 0 12 = M 140 4 ∧ (M 0 12 = 0 ∨ M 0 12 = 1)
def R1 (M : JM) : Prop := ∃ ds, SH M 1 4 ds ∧ DM M 140 ds
def R2 (M : JM) : Prop := ∃ es, SH M 13 4 es ∧ M 0 10 = M 140 14 ∧ (M 0 10 = 0 ∨ M 0 10 = 1) ∧ ((M 0 11 = 0 ∧ M 140 11 = 0) ∨ (M 0 11 = 1 ∧ M 140 11 = 1 ∧ DMs M 140 es))
def R3 (M : JM) : Prop := ∃ hs, HS M 25 hs ∧ HM M 140 hs
def R4 (M : JM) : Prop := ∃ tp, LN M 49 50 tp ∧ TP M 140 tp
def R5 (M : JM) : Prop := ∃ xs, LN M 53 24 xs
def R6 (M : JM) : Prop := ∃ rs, rs.length = 25 ∧ TB M 64 625 25 rs
def R7 (M : JM) : Prop := ∃ mk xs ys P anc mv, CM M 66 mk xs ys P anc mv ∧ CMm M 140 mk xs ys P anc mv
def R8 (M : JM) : Prop := ∃ mk bs ls rs cs cf, MG M 92 mk bs ls rs cs cf ∧ MGm M 140 mk bs ls rs cs cf
def R9 (M : JM) : Prop := ∃ mk xs ys hs kp, PC M 127 mk xs ys hs kp ∧ PCm M 140 mk xs ys hs kp
def RLL (M : JM) : Prop := R0 M ∧ R1 M ∧ R2 M ∧ R3 M ∧ R4 M ∧ R5 M ∧ R6 M ∧ R7 M ∧ R8 M ∧ R9 M
theorem R0.k (h : R0 M) (hc : CF ps F0 M M1) (hm : MF 140 A F M1 M2) (hk : kk ps F0 A F 1 1 [9, 12] [] [3, 4] = true) : R0 M2 := by
  obtain ⟨-, f, -, g⟩ := kk_use hc hm hk (by decide) (by decide)
  unfold R0
  rw [f 9 (by decide), f 12 (by decide), g 3 (by decide), g 4 (by decide)]
  exact h
theorem R1.k (h : R1 M) (hc : CF ps F0 M M1) (hm : MF 140 A F M1 M2) (hk : kk ps F0 A F 1 13 [] [1, 2] [] = true) : R1 M2 := by
  obtain ⟨⟨N, n1, n2⟩, -, g, -⟩ := kk_use hc hm hk (by decide) (by decide)
  obtain ⟨ds, a, b⟩ := h
  exact ⟨ds, (a.frame n1 (by decide)).frame n2 (by decide), b.eq (g 1 (by decide)) (g 2 (by decide))⟩
theorem R2.k (h : R2 M) (hc : CF ps F0 M M1) (hm : MF 140 A F M1 M2) (hk : kk ps F0 A F 13 25 [10, 11] [7, 8] [11, 14] = true) : R2 M2 := by
  obtain ⟨⟨N, n1, n2⟩, f0, g, f⟩ := kk_use hc hm hk (by decide) (by decide)
  obtain ⟨es, a, b, c, d⟩ := h
  refine ⟨es, (a.frame n1 (by decide)).frame n2 (by decide), ?_, ?_, ?_⟩
  · rw [f0 10 (by decide), f 14 (by decide)]; exact b
  · rw [f0 10 (by decide)]; exact c
  · rw [f0 11 (by decide), f 11 (by decide)]
    rcases d with d | ⟨d1, d2, d3⟩
    · exact Or.inl d
    · exact Or.inr ⟨d1, d2, d3.eq (g 7 (by decide)) (g 8 (by decide))⟩
theorem R3.k (h : R3 M) (hc : CF ps F0 M M1) (hm : MF 140 A F M1 M2) (hk : kk ps F0 A F 25 48 [] [4, 5, 6] [10] = true) : R3 M2 := by
  obtain ⟨⟨N, n1, n2⟩, -, g, f⟩ := kk_use hc hm hk (by decide) (by decide)
  obtain ⟨hs, a, b⟩ := h
  exact ⟨hs, (a.frame n1 (by decide)).frame n2 (by decide), b.q g (f 10 (by decide))⟩
theorem R4.k (h : R4 M) (hc : CF ps F0 M M1) (hm : MF 140 A F M1 M2) (hk : kk ps F0 A F 49 51 [] [3] [6] = true) : R4 M2 := by
  obtain ⟨⟨N, n1, n2⟩, -, g, f⟩ := kk_use hc hm hk (by decide) (by decide)
  obtain ⟨hs, a, b⟩ := h
  exact ⟨hs, (a.frame n1 (by decide)).frame n2 (by decide), b.q (g 3 (by decide)) (f 6 (by decide))⟩
theorem R5.k (h : R5 M) (hc : CF ps F0 M M1) (hm : MF 140 A F M1 M2) (hk : kk ps F0 A F 53 55 [] [] [] = true) : R5 M2 := by
  obtain ⟨⟨N, n1, n2⟩, -, g, f⟩ := kk_use hc hm hk (by decide) (by decide)
  obtain ⟨xs, a⟩ := h
  exact ⟨xs, (a.frame n1 (by decide)).frame n2 (by decide)⟩
theorem R6.k (h : R6 M) (hc : CF ps F0 M M1) (hm : MF 140 A F M1 M2) (hk : kk ps F0 A F 64 66 [] [] [] = true) : R6 M2 := by
  obtain ⟨⟨N, n1, n2⟩, -, g, f⟩ := kk_use hc hm hk (by decide) (by decide)
  obtain ⟨rs, l, a⟩ := h
  exact ⟨rs, l, (a.frame n1 (by decide)).frame n2 (by decide)⟩
theorem R7.k (h : R7 M) (hc : CF ps F0 M M1) (hm : MF 140 A F M1 M2) (hk : kk ps F0 A F 66 92 [] [15, 16, 17, 18, 19] [25, 27, 29, 31, 33, 35] = true) : R7 M2 := by
  obtain ⟨⟨N, n1, n2⟩, -, g, f⟩ := kk_use hc hm hk (by decide) (by decide)
  obtain ⟨mk, xs, ys, P, anc, mv, a, b⟩ := h
  exact ⟨mk, xs, ys, P, anc, mv, (a.frame n1 (by decide)).frame n2 (by decide), b.q g f⟩
theorem R8.k (h : R8 M) (hc : CF ps F0 M M1) (hm : MF 140 A F M1 M2) (hk : kk ps F0 A F 92 127 [] [22, 23, 24, 27, 28] [38, 40, 42, 44, 48, 50] = true) : R8 M2 := by
  obtain ⟨⟨N, n1, n2⟩, -, g, f⟩ := kk_use hc hm hk (by decide) (by decide)
  obtain ⟨mk, bs, ls, rs, cs, cf, a, b⟩ := h
  exact ⟨mk, bs, ls, rs, cs, cf, (a.frame n1 (by decide)).frame n2 (by decide), b.q g f⟩
theorem R9.k (h : R9 M) (hc : CF ps F0 M M1) (hm : MF 140 A F M1 M2) (hk : kk ps F0 A F 127 140 [] [29, 30, 31, 32] [51, 53, 56] = true) : R9 M2 := by
  obtain ⟨⟨N, n1, n2⟩, -, g, f⟩ := kk_use hc hm hk (by decide) (by decide)
  obtain ⟨mk, xs, ys, hs, kp, a, b⟩ := h
  exact ⟨mk, xs, ys, hs, kp, (a.frame n1 (by decide)).frame n2 (by decide), b.q g f⟩
/-- nothing between two calls is touched -/
theorem RLL.k (h : RLL M) (hc : CF [] [] M M1) (hm : MF 140 A F M1 M2) (h0 : kk [] [] A F 1 1 [9, 12] [] [3, 4] = true) (h1 : kk [] [] A F 1 13 [] [1, 2] [] = true) (h2 : kk [] [] A F 13 25 [10, 11] [7, 8] [11, 14] = true) (h3 : kk [] [] A F 25 48 [] [4, 5, 6] [10] = true) (h4 : kk [] [] A F 49 51 [] [3] [6] = true) (h7 : kk [] [] A F 66 92 [] [15, 16, 17, 18, 19] [25, 27, 29, 31, 33, 35] = true) (h8 : kk [] [] A F 92 127 [] [22, 23, 24, 27, 28] [38, 40, 42, 44, 48, 50] = true) (h9 : kk [] [] A F 127 140 [] [29, 30, 31, 32] [51, 53, 56] = true) : RLL M2 := by
  obtain ⟨a0, a1, a2, a3, a4, a5, a6, a7, a8, a9⟩ := h
  have h5 : kk [] [] A F 53 55 [] [] [] = true := by
    unfold kk at h0 ⊢
    simp only [Bool.and_eq_true] at h0 ⊢
    exact ⟨⟨⟨⟨rfl, rfl⟩, rfl⟩, rfl⟩, h0.2⟩
  have h6 : kk [] [] A F 64 66 [] [] [] = true := h5
  exact ⟨a0.k hc hm h0, a1.k hc hm h1, a2.k hc hm h2, a3.k hc hm h3, a4.k hc hm h4, a5.k hc hm h5, a6.k hc hm h6, a7.k hc hm h7, a8.k hc hm h8, a9.k hc hm h9⟩
/-- where all lies -/
def YH (Y : JY) : Prop := (j_rf Y 0 0 = 1 ∧ ShAt Y 1 4) ∧ (j_rf Y 0 1 = 13 ∧ ShAt Y 13 4) ∧ (j_rf Y 0 2 = 25 ∧ HsAt Y 25) ∧ (j_rf Y 0 3 = 48 ∧ InAt Y 48) ∧ (j_rf Y 0 4 = 53 ∧ LnAt Y 53 24) ∧ (j_rf Y 0 5 = 55 ∧ AlAt Y 55) ∧ (j_rf Y 0 6 = 66 ∧ CmAt Y 66) ∧ (j_rf Y 0 7 = 92 ∧ MgAt Y 92) ∧ (j_rf Y 0 8 = 127 ∧ PcAt Y 127) ∧ MdAt Y 140 ∧ j_ln Y 174 = 1 ∧ j_ln Y 175 = 1
/-- class and model agree at a call, and what holds between calls holds again -/
def AG (R : Option (Int32 × JM)) (md : JM → Option (Int32 × JM)) : Prop := ∃ k M1 b M2, R = some (k, M1) ∧ md M1 = some (b, M2) ∧ M2 140 0 = k ∧ (k = 0 → M2 174 0 = b) ∧ RLL M2
theorem AG.ok {R : Option (Int32 × JM)} {md : JM → Option (Int32 × JM)} {v : Int32} {M0 : JM} (hR : R = some (0, j_up M0 174 0 v)) (hmd : md (j_up M0 174 0 v) = some (v, M2)) (h0 : M2 140 0 = 0) (hm : MF 140 A F (j_up M0 174 0 v) M2) (hA : ∀ t ∈ A, t < 34) (hL : RLL M2) : AG R md :=
  ⟨0, _, v, M2, hR, hmd, h0, fun _ => by rw [hm.cls hA (Or.inr (by decide)), j_up_s], hL⟩
theorem AG.bad {R : Option (Int32 × JM)} {md : JM → Option (Int32 × JM)} {k : Int32} (hk : k ≠ 0) (hR : R = some (k, M)) (hmd : md M = some (0, j_up M 140 0 k)) (hL : RLL M) : AG R md :=
  ⟨k, M, 0, _, hR, hmd, j_up_s, fun e => absurd e hk, hL.k CF.refl (MF.uf (k := 0)) (by decide) (by decide) (by decide) (by decide) (by decide) (by decide) (by decide) (by decide)⟩
theorem h_out {Y : JY} (hl : j_ln Y 174 = 1) : j_g (0 : Int32) (j_ln Y 174) := by
  rw [hl, ← nI_0]
  exact j_g_nI (by decide) (by decide)
end RLS
section RLD
variable {Y : JY} {M : JM}
theorem h_doc (hY : YH Y) {r : Nat} (hr : r < 4) : s_X9_document Y M 0 (nI r) = some (Sum.inr (1 + 4 + 2 * r, M)) := by
  unfold s_X9_document
  rw [if_neg (by
    rintro (c | c)
    · exact nI_pos (by omega) c
    · exact c (by rw [show (4 : Int32) = nI 4 from rfl]; exact nI_lt hr (by omega))), hY.1.1, p_place hY.1.2 hr]
theorem h_docN {p : Int32} (h : ¬ ∃ r : Nat, r < 4 ∧ p = nI r) : s_X9_document Y M 0 p = some (Sum.inl (0, M)) := by
  unfold s_X9_document
  rw [if_pos]
  by_cases c : p < 0
  · exact Or.inl c
  · obtain ⟨r, hr, rfl⟩ := nI_of c
    refine Or.inr (fun q => h ⟨r, ?_, rfl⟩)
    rw [show (4 : Int32) = nI 4 from rfl, nI_ltI hr (by omega)] at q
    exact q
theorem h_bad {p : Int32} (h : ¬ ∃ r : Nat, r < 4 ∧ p = nI r) : s_X10_isRegister Y M p = 0 := m_isReg.mpr h
theorem CF.md {ps : List (Nat × Nat)} {F0 : List Nat} {M1 : JM} (h : CF ps F0 M M1) (hp : ∀ p ∈ ps, p.2 ≤ 140) {t : Nat} (ht : t < 34) : M1 (140 + t) = M (140 + t) := h.1 _ (by omega) (by omega) (by omega) (fun p hp' => Or.inr (by have := hp p hp'; omega))
theorem m_ix {p : Int32} {n : Nat} (hn : n < 2 ^ 31) : s_X10_in Y M p 0 (nI n - 1) = 0 ↔ ¬ ∃ i : Nat, i < n ∧ p = nI i := by
  rw [m_in]
  constructor
  · rintro h ⟨i, hi, rfl⟩
    rcases h with h | h
    · exact nI_pos (by omega) h
    · rw [show n = (n - 1) + 1 by omega, nI_pd] at h
      exact nI_nlt (by omega) (by omega) h
  · intro h
    by_cases c : p < 0
    · exact Or.inl c
    · obtain ⟨i, hi, rfl⟩ := nI_of c
      refine Or.inr ?_
      cases n with
      | zero =>
        have e : nI 0 - (1 : Int32) = -1 := by decide
        rw [e]
        exact Int32.lt_of_lt_of_le (show (-1 : Int32) < 0 by decide) (nI_pos' hi)
      | succ n =>
        rw [nI_pd]
        exact nI_lt (Nat.lt_of_not_le (fun q => h ⟨i, by omega, rfl⟩)) hi
theorem m_up {p : Int32} {c : Nat} (hc : c < 2 ^ 31) : s_X10_in Y M p 0 (nI c) = 0 ↔ ¬ ∃ j : Nat, j < c + 1 ∧ p = nI j := by
  have := m_ix (Y := Y) (M := M) (p := p) (n := c + 1)
  by_cases h : c + 1 < 2 ^ 31
  · have e := this h
    rw [nI_pd] at e
    exact e
  · rw [m_in]
    constructor
    · rintro h ⟨i, hi, rfl⟩
      rcases h with h | h
      · exact nI_pos (by omega) h
      · exact nI_nlt (by omega) (by omega) h
    · intro h2
      by_cases q : p < 0
      · exact Or.inl q
      · obtain ⟨i, hi, rfl⟩ := nI_of q
        exact absurd ⟨i, by omega, rfl⟩ h2
theorem h_lt {p : Int32} {c : Nat} (hc : c < 2 ^ 31) : (p < 0 ∨ ¬ (p < nI c)) ↔ ¬ ∃ j : Nat, j < c ∧ p = nI j := by
  constructor
  · rintro h ⟨i, hi, rfl⟩
    rcases h with h | h
    · exact nI_pos (by omega) h
    · exact h (nI_lt hi hc)
  · intro h
    by_cases q : p < 0
    · exact Or.inl q
    · obtain ⟨i, hi, rfl⟩ := nI_of q
      exact Or.inr (fun x => h ⟨i, (nI_ltI hi hc).mp x, rfl⟩)
theorem h_le {p : Int32} {c : Nat} (hc : c < 2 ^ 31) : (p < 0 ∨ ¬ (p ≤ nI c)) ↔ ¬ ∃ j : Nat, j < c + 1 ∧ p = nI j := by
  constructor
  · rintro h ⟨i, hi, rfl⟩
    rcases h with h | h
    · exact nI_pos (by omega) h
    · exact h (nI_le (by omega) hc)
  · intro h
    by_cases q : p < 0
    · exact Or.inl q
    · obtain ⟨i, hi, rfl⟩ := nI_of q
      exact Or.inr (fun x => h ⟨i, by have := (nI_leI hi hc).mp x; omega, rfl⟩)
theorem h_has {o cap : Nat} {xs : List Int32} (hy : LnAt Y o cap) (h : LN M o cap xs) (p : Int32) : s_X4_has Y M o p = 0 ↔ ¬ ∃ i : Nat, i < xs.length ∧ p = nI i := by
  have h9 := h.2.1
  have h8 := hy.2.2
  rw [p_has hy h]
  constructor
  · rintro e ⟨i, hi, rfl⟩
    rw [if_pos ⟨nI_pos (by omega), by rw [nI_clamp (by omega)]; exact hi⟩] at e
    exact absurd e (by decide)
  · intro e
    rw [if_neg]
    rintro ⟨c1, c2⟩
    obtain ⟨i, hi, rfl⟩ := nI_of c1
    rw [nI_clamp hi] at c2
    exact e ⟨i, c2, rfl⟩
theorem h_hasRow {o cap c : Nat} {rs : List (List Int32)} (hy : TbAt Y o cap) (hc : 0 < c) (h : TB M o cap c rs) (p : Int32) : s_X8_hasRow Y M o p = 0 ↔ ¬ ∃ i : Nat, i < rs.length ∧ p = nI i := by
  have h9 := h.lens hc
  have h8 := hy.2.2
  rw [p_hasRow hy hc h]
  constructor
  · rintro e ⟨i, hi, rfl⟩
    rw [if_pos ⟨nI_pos (by omega), by rw [nI_clamp (by omega)]; exact hi⟩] at e
    exact absurd e (by decide)
  · intro e
    rw [if_neg]
    rintro ⟨c1, c2⟩
    obtain ⟨i, hi, rfl⟩ := nI_of c1
    rw [nI_clamp hi] at c2
    exact e ⟨i, c2, rfl⟩
theorem h_line {v : Int32} (h : ¬ s_X10_in Y M v 0 25 = 0) {N : JM} : s_X9_requireLine Y N v = some (Sum.inr N) := by
  unfold s_X9_requireLine
  rw [if_neg]
  rintro (c | c)
  · exact h (m_in.mpr (Or.inl c))
  · exact h (m_in.mpr (Or.inr (Int32.not_le.mp c)))
theorem h_lineN {v : Int32} (h : s_X10_in Y M v 0 25 = 0) {N : JM} : s_X9_requireLine Y N v = some (Sum.inl (0, N)) := by
  unfold s_X9_requireLine
  rw [if_pos]
  rcases m_in.mp h with c | c
  · exact Or.inl c
  · exact Or.inr (Int32.not_le.mpr c)
theorem h_room {q : Nat} {xs : List Int32} (h : LN M q 24 xs) : s_X9_requireRoom Y M q = if xs.length < 24 then some (Sum.inr M) else some (Sum.inl (1, M)) := by
  have h9 := h.2.1
  unfold s_X9_requireRoom
  rw [p_size h]
  by_cases c : xs.length < 24
  · rw [if_pos c, if_pos (by rw [show (24 : Int32) = nI 24 from rfl]; exact nI_lt c (by omega))]
  · rw [if_neg c, if_neg (by rw [show (24 : Int32) = nI 24 from rfl]; exact nI_nlt (by omega) (by omega))]
/-- the law's way of telling: nothing was thrown -/
theorem h_ret {v : Int32} (hY : YH Y) : (if j_g (0 : Int32) (j_ln Y 174) then (lt_ (j_up M 174 (0 : Int32).toNatClampNeg v) fun mm5 => some ((0 : Int32), mm5)) else none) = some (0, j_up M 174 0 v) := by
  rw [if_pos (h_out hY.2.2.2.2.2.2.2.2.2.2.1)]
  rfl
theorem h_sz {r : Nat} {ds : Nat → List Int32} (hD : DM M 140 ds) (hr : r < 4) : j_g (nI r) 4 ∧ M (140 + 2) r = nI (ds r).length ∧ (nI r).toNatClampNeg = r := ⟨j_g_nI hr (by omega), (hD r hr).1, nI_clamp (by omega)⟩
theorem r_append (hY : YH Y) (hL : RLL M) (p v : Int32) : AG (s_L_append Y M 0 p v 174) (fun N => s_X10_append Y N 140 p v) := by
  have hL' := hL
  obtain ⟨a0, ⟨ds, hS, hD⟩, a2, ⟨hs, hH, hHm⟩, a4, a5, a6, a7, a8, a9⟩ := hL
  by_cases hp : ∃ r : Nat, r < 4 ∧ p = nI r
  · obtain ⟨r, hr, rfl⟩ := hp
    by_cases hv : s_X10_in Y M v 0 25 = 0
    · refine AG.bad (k := 1) (by decide) ?_ ?_ hL'
      · unfold s_L_append s_X9_append
        rw [h_doc hY hr]
        dsimp only [Option.bind]
        rw [h_lineN hv]
        rfl
      · show s_X10_append Y M 140 (nI r) v = some (0, _)
        unfold s_X10_append
        rw [if_pos (Or.inr hv)]
        rfl
    · have hdoc := hS r hr
      have hya := hY.1.2.2.2.2.2 r hr
      have hroom := h_room (Y := Y) hdoc
      have hyM := hY.2.2.2.2.2.2.2.2.2.1
      have e2 : j_rf Y 140 2 = 140 + 2 := (hyM (2, 2, 4) (by decide)).1
      have l2 : j_ln Y (140 + 2) = 4 := (hyM (2, 2, 4) (by decide)).2
      by_cases hl : (ds r).length < 24
      · obtain ⟨M1, b1, b2, b3⟩ := p_hsRemember hY.2.2.1.2 hH hya.2 hdoc (by omega) hr
        have hdoc1 := hdoc.frame b2 (by omega)
        have r1 := p_push_LN hya.2 hdoc1 hl v
        have r2 := p_push_fr hya.2 hdoc1 hl v
        obtain ⟨M2, hM2⟩ : ∃ z, z = s_X4_push Y M1 (1 + 4 + 2 * r) v := ⟨_, rfl⟩
        rw [← hM2] at r1 r2
        have hCF : CF [(1, 13), (25, 48)] [] M (j_up M2 174 0 (nI ((ds r).length + 1))) := ((CF.of b2 (by decide) (by decide)).trans (CF.of (r2.mono (lo' := 1) (hi' := 13) (by omega) (by omega)) (by decide) (by decide))).trans CF.out
        have hmd : ∀ t, t < 34 → j_up M2 174 0 (nI ((ds r).length + 1)) (140 + t) = M (140 + t) := fun t ht => hCF.md (by decide) ht
        obtain ⟨M4, c1, c2, c3, c4, c5⟩ := m_append hyM (hD.eq (hmd 1 (by decide)) (hmd 2 (by decide))) (hHm.q (fun t ht => hmd t (by revert ht; revert t; decide)) (congrFun (hmd 0 (by decide)) 10)) hr hl (v := v) (fun c => hv c)
        have fo : JFr 174 175 M2 (j_up M2 174 0 (nI ((ds r).length + 1))) := JFr.up
        have fm : JFr 140 174 _ M4 := c2.jfr (by decide)
        refine AG.ok (v := nI ((ds r).length + 1)) (M0 := M2) ?_ c1 c3 c2 (by decide) ⟨a0.k hCF c2 (by decide), ⟨_, (((hS.frame b2 (by decide)).set r2 r1).frame fo (by decide)).frame fm (by decide), c4⟩, a2.k hCF c2 (by decide), ⟨_, ((b3.frame r2 (by omega)).frame fo (by decide)).frame fm (by decide), c5⟩, a4.k hCF c2 (by decide), a5.k hCF c2 (by decide), a6.k hCF c2 (by decide), a7.k hCF c2 (by decide), a8.k hCF c2 (by decide), a9.k hCF c2 (by decide)⟩
        unfold s_L_append s_X9_append
        rw [h_doc hY hr]
        dsimp only [Option.bind]
        rw [h_line hv]
        dsimp only
        rw [hroom, if_pos hl]
        dsimp only
        rw [hY.2.2.1.1, b1]
        dsimp only [lt_]
        rw [← hM2, p_size r1, List.length_append]
        exact h_ret hY
      · refine AG.bad (k := 2) (by decide) ?_ ?_ hL'
        · unfold s_L_append s_X9_append
          rw [h_doc hY hr]
          dsimp only [Option.bind]
          rw [h_line hv]
          dsimp only
          rw [hroom, if_neg hl]
          rfl
        · show s_X10_append Y M 140 (nI r) v = some (0, _)
          obtain ⟨s1, s2, s3⟩ := h_sz hD hr
          have h24 := hdoc.2.1
          unfold s_X10_append
          rw [if_neg (by rintro (c | c); exact m_isRegT hr c; exact hv c), e2, l2]
          simp only [if_pos s1, s3, s2]
          rw [if_pos (by rw [show (ds r).length = 24 by omega]; rfl)]
          rfl
  · refine AG.bad (k := 1) (by decide) ?_ ?_ hL'
    · unfold s_L_append s_X9_append
      rw [h_docN hp]
      rfl
    · show s_X10_append Y M 140 p v = some (0, _)
      unfold s_X10_append
      rw [if_pos (Or.inl (h_bad hp))]
      rfl
end RLD

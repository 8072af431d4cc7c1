/-! ===== pure: Shelf, History ===== -/
def ShAt (Y : JY) (o n : Nat) : Prop := j_rf Y o 0 = o + 3 ∧ j_rf Y o 1 = o + 1 ∧ j_ln Y (o + 3) = n ∧ n < 100 ∧ ∀ i, i < n → j_rf Y (o + 3) i = o + 4 + 2 * i ∧ LnAt Y (o + 4 + 2 * i) 24
def SH (M : JM) (o n : Nat) (ds : Nat → List Int32) : Prop := ∀ i, i < n → LN M (o + 4 + 2 * i) 24 (ds i)
theorem SH.frame {lo hi : Nat} {M M' : JM} {o n : Nat} {ds : Nat → List Int32} (h : SH M o n ds) (hf : JFr lo hi M M') (hd : o + 4 + 2 * n ≤ lo ∨ hi ≤ o + 4) : SH M' o n ds := fun i hi => (h i hi).frame hf (by omega)
def f_up {α : Type} (f : Nat → α) (k : Nat) (x : α) : Nat → α := fun j => if j = k then x else f j
theorem f_up_s {α : Type} {f : Nat → α} {k : Nat} {x : α} : f_up f k x k = x := by simp [f_up]
theorem f_up_n {α : Type} {f : Nat → α} {k j : Nat} {x : α} (h : j ≠ k) : f_up f k x j = f j := by simp [f_up, h]
section SHS
variable {Y : JY} {M : JM} {o n : Nat} {ds : Nat → List Int32}
theorem p_place (hy : ShAt Y o n) {i : Nat} (hi : i < n) : s_X7_place Y M o (nI i) = o + 4 + 2 * i := by
  obtain ⟨y1, y2, y3, y4, y5⟩ := hy
  unfold s_X7_place
  rw [y1, y3, nI_ofNat, if_neg, nI_clamp (by omega)]
  · exact (y5 i hi).1
  · rintro (c | c)
    · exact nI_pos (by omega) c
    · exact c (nI_lt hi (by omega))
theorem SH.set {M' : JM} (h : SH M o n ds) {i : Nat} {xs : List Int32} (hf : JFr (o + 4 + 2 * i) (o + 4 + 2 * i + 2) M M') (hx : LN M' (o + 4 + 2 * i) 24 xs) : SH M' o n (f_up ds i xs) := by
  intro j hj
  by_cases e : j = i
  · subst e
    rw [f_up_s]
    exact hx
  · rw [f_up_n e]
    exact (h j hj).frame hf (by omega)
theorem p_shbecome_loop (hy : ShAt Y o n) {q : Nat} {es : Nat → List Int32} (hyq : ShAt Y q n) (hd : q + 4 + 2 * n ≤ o + 4 ∨ o + 4 + 2 * n ≤ q + 4) : ∀ (k i m : Nat) (M : JM) (ds : Nat → List Int32), n = i + k → k < m → SH M o n ds → SH M q n es → (∀ j, j < i → ds j = es j) →
      ∃ M', lp_X7_become_1 Y o q m (nI i) M = some M' ∧ JFr (o + 4) (o + 4 + 2 * n) M M' ∧ SH M' o n es := by
  intro k
  have y3 := hy.2.2.1
  have y4 := hy.2.2.2.1
  induction k with
  | zero =>
    intro i m M ds hi hm h hq he
    obtain ⟨m, rfl⟩ : ∃ z, m = z + 1 := ⟨m - 1, by omega⟩
    refine ⟨M, ?_, JFr.refl, fun j hj => ?_⟩
    · unfold lp_X7_become_1
      rw [hy.1, y3, nI_ofNat, if_pos (nI_le (by omega) (by omega))]
    · rw [← he j (by omega)]
      exact h j hj
  | succ k ih =>
    intro i m M ds hi hm h hq he
    obtain ⟨m, rfl⟩ : ∃ z, m = z + 1 := ⟨m - 1, by omega⟩
    have hin : i < n := by omega
    obtain ⟨M1, e1, e2, e3⟩ := p_become (M := M) (hy.2.2.2.2 i hin).2 (hyq.2.2.2.2 i hin).2 (hq i hin) (by omega) (hq i hin).2.1
    obtain ⟨M', a1, a2, a3⟩ := ih (i + 1) m M1 (f_up ds i (es i)) (by omega) (by omega) (h.set e2 e3) (hq.frame e2 (by omega)) (fun j hj => by
      by_cases e : j = i
      · rw [e, f_up_s]
      · rw [f_up_n e]
        exact he j (by omega))
    refine ⟨M', ?_, (e2.mono (by omega) (by omega)).trans a2, a3⟩
    unfold lp_X7_become_1
    rw [hy.1, y3, nI_ofNat, if_neg (nI_ge hin (by omega)), p_place hy hin, p_place hyq hin, e1]
    dsimp only [Option.bind, lt_]
    rw [nI_1]
    exact a1
theorem p_shbecome (hy : ShAt Y o n) (h : SH M o n ds) {q : Nat} {es : Nat → List Int32} (hyq : ShAt Y q n) (hq : SH M q n es) (hd : q + 4 + 2 * n ≤ o + 4 ∨ o + 4 + 2 * n ≤ q + 4) :
    ∃ M', s_X7_become Y M o q = some M' ∧ JFr (o + 4) (o + 4 + 2 * n) M M' ∧ SH M' o n es := by
  have y4 := hy.2.2.2.1
  obtain ⟨M', e1, e2, e3⟩ := p_shbecome_loop hy hyq hd n 0 j_fuel M ds (by omega) (j_fuel_gt (by omega)) h hq (fun j hj => absurd hj (Nat.not_lt_zero _))
  refine ⟨M', ?_, e2, e3⟩
  unfold s_X7_become
  rw [nI_0] at e1
  rw [e1]
  rfl
def f_sum (ds : Nat → List Int32) : Nat → Nat → Nat
  | _, 0 => 0
  | i, k + 1 => (ds i).length + f_sum ds (i + 1) k
theorem p_allLines_loop (hy : ShAt Y o n) (h : SH M o n ds) : ∀ (k i m s : Nat), n = i + k → k < m → lp_X7_allLines_1 Y o M m (nI s) (nI i) = some (nI (s + f_sum ds i k)) := by
  intro k
  have y3 := hy.2.2.1
  have y4 := hy.2.2.2.1
  induction k with
  | zero =>
    intro i m s hi hm
    obtain ⟨m, rfl⟩ : ∃ z, m = z + 1 := ⟨m - 1, by omega⟩
    unfold lp_X7_allLines_1
    rw [hy.1, y3, nI_ofNat, if_pos (nI_le (by omega) (by omega))]
    rfl
  | succ k ih =>
    intro i m s hi hm
    obtain ⟨m, rfl⟩ : ∃ z, m = z + 1 := ⟨m - 1, by omega⟩
    have hin : i < n := by omega
    unfold lp_X7_allLines_1
    rw [hy.1, y3, nI_ofNat, if_neg (nI_ge hin (by omega)), p_place hy hin, p_size (h i hin)]
    dsimp only [lt_]
    rw [nI_add, nI_1, ih (i + 1) m _ (by omega) (by omega), Nat.add_assoc]
    rfl
theorem p_allLines (hy : ShAt Y o n) (h : SH M o n ds) : s_X7_allLines Y M o = some (nI (f_sum ds 0 n)) := by
  have y4 := hy.2.2.2.1
  have e := p_allLines_loop hy h n 0 j_fuel 0 (by omega) (j_fuel_gt (by omega))
  unfold s_X7_allLines
  rw [nI_0, Nat.zero_add] at e
  rw [e]
  rfl
end SHS
/-- the latest changes, the newest first -/
def HsAt (Y : JY) (o : Nat) : Prop := j_rf Y o 0 = o + 1 ∧ ShAt Y (o + 1) 8 ∧ j_rf Y o 1 = o + 21 ∧ LnAt Y (o + 21) 8
def HS (M : JM) (o : Nat) (hs : List (Nat × List Int32)) : Prop := ∃ nx R ds, nx < 8 ∧ M o 2 = nI nx ∧ M o 3 = nI hs.length ∧ hs.length ≤ 8 ∧ LN M (o + 21) 8 R ∧ R.length = 8 ∧ SH M (o + 1) 8 ds ∧ (∀ k, k < hs.length → hs[k]? = some ((R[(nx + 7 - k) % 8]?).getD 0 |>.toNatClampNeg, ds ((nx + 7 - k) % 8)) ∧ (R[(nx + 7 - k) % 8]?).getD 0 = nI ((R[(nx + 7 - k) % 8]?).getD 0).toNatClampNeg)
theorem HS.frame {lo hi : Nat} {M M' : JM} {o : Nat} {hs : List (Nat × List Int32)} (h : HS M o hs) (hf : JFr lo hi M M') (hd : o + 23 ≤ lo ∨ hi ≤ o) : HS M' o hs := by
  obtain ⟨nx, R, ds, h1, h2, h3, h4, h5, h6, h7, h8⟩ := h
  exact ⟨nx, R, ds, h1, by rw [hf o (by omega)]; exact h2, by rw [hf o (by omega)]; exact h3, h4, h5.frame hf (by omega), h6, h7.frame hf (by omega), h8⟩
section HSS
variable {Y : JY} {M : JM} {o : Nat} {hs : List (Nat × List Int32)}
theorem p_hsEmpty (h : HS M o hs) : s_X2_isEmpty Y M o = if hs = [] then 1 else 0 := by
  obtain ⟨nx, R, ds, h1, h2, h3, h4, h5, h6, h7, h8⟩ := h
  unfold s_X2_isEmpty
  rw [h3]
  cases hs with
  | nil => rfl
  | cons a t =>
    have h4' : t.length + 1 ≤ 8 := h4
    have e9 : ¬ nI (a :: t).length = 0 := nI_ne0 (Nat.succ_pos _) (Nat.lt_of_le_of_lt h4 (by decide))
    rw [if_neg e9, if_neg (by simp)]
theorem p_hsForget (h : HS M o hs) : HS (s_X2_forget Y M o) o [] ∧ JFr o (o + 23) M (s_X2_forget Y M o) := by
  obtain ⟨nx, R, ds, h1, h2, h3, h4, h5, h6, h7, h8⟩ := h
  have e : s_X2_forget Y M o = j_up M o 3 0 := rfl
  have f : JFr o (o + 1) M (j_up M o 3 0) := JFr.up
  rw [e]
  exact ⟨⟨nx, R, ds, h1, by rw [j_up_k (by decide)]; exact h2, by rw [j_up_s]; rfl, by simp, h5.frame f (by omega), h6, h7.frame f (by omega), fun k hk => absurd hk (Nat.not_lt_zero _)⟩, f.mono (Nat.le_refl _) (by omega)⟩
theorem p_hsRemember (hy : HsAt Y o) (h : HS M o hs) {q : Nat} {xs : List Int32} (hyq : LnAt Y q 24) (hq : LN M q 24 xs) (hd : q + 2 ≤ o ∨ o + 23 ≤ q) {r : Nat} (hr : r < 4) :
    ∃ M', s_X2_remember Y M o (nI r) q = some M' ∧ JFr o (o + 23) M M' ∧ HS M' o (((r, xs) :: hs).take 8) := by
  obtain ⟨nx, R, ds, h1, h2, h3, h4, h5, h6, h7, h8⟩ := h
  obtain ⟨y1, y2, y3, y4⟩ := hy
  have hnR : nx < R.length := by omega
  have p1 := p_put_LN y4 h5 hnR (nI r)
  have f1 := p_put_fr y4 h5 hnR (nI r)
  obtain ⟨M1, e1, e2, e3⟩ := p_become (M := s_X4_put Y M (o + 21) (nI nx) (nI r)) (y2.2.2.2.2 nx h1).2 hyq (hq.frame f1 (by omega)) (by omega) hq.2.1
  have F1 : JFr (o + 1) (o + 23) M (s_X4_put Y M (o + 21) (nI nx) (nI r)) := f1.mono (by omega) (by omega)
  have F2 : JFr (o + 1) (o + 23) (s_X4_put Y M (o + 21) (nI nx) (nI r)) M1 := e2.mono (by omega) (by omega)
  have F := F1.trans F2
  have m2 : M1 o 2 = nI nx := by rw [F o (by omega)]; exact h2
  have m3 : M1 o 3 = nI hs.length := by rw [F o (by omega)]; exact h3
  have k2 : (if (7 : Int32) ≤ M1 o 2 then (0 : Int32) else M1 o 2 + 1) = nI ((nx + 1) % 8) := by
    rw [m2]
    by_cases e : nx = 7
    · rw [e]; decide
    · have e9 : ¬ (7 : Int32) ≤ nI nx := nI_ge (a := nx) (b := 7) (by omega) (by decide)
      rw [if_neg e9, nI_1, Nat.mod_eq_of_lt (by omega)]
  have k3 : (if (8 : Int32) ≤ M1 o 3 then (8 : Int32) else M1 o 3 + 1) = nI (min (hs.length + 1) 8) := by
    rw [m3]
    by_cases e : hs.length = 8
    · rw [e]; decide
    · have e9 : ¬ (8 : Int32) ≤ nI hs.length := nI_ge (a := hs.length) (b := 8) (by omega) (by decide)
      rw [if_neg e9, nI_1, Nat.min_eq_left (by omega)]
  obtain ⟨M3, hM3⟩ : ∃ z, z = j_up (j_up M1 o 2 (nI ((nx + 1) % 8))) o 3 (nI (min (hs.length + 1) 8)) := ⟨_, rfl⟩
  have F3 : JFr o (o + 1) M1 M3 := by rw [hM3]; exact JFr.up.trans JFr.up
  refine ⟨M3, ?_, (F.mono (by omega) (Nat.le_refl _)).trans (F3.mono (Nat.le_refl _) (by omega)), ?_⟩
  · unfold s_X2_remember
    dsimp only [lt_]
    rw [y1, y3, h2]
    have e9 : s_X4_put Y M (o + 21) (nI nx) (nI r) o 2 = nI nx := by rw [f1 o (by omega)]; exact h2
    rw [e9, p_place y2 h1, e1]
    dsimp only [Option.bind]
    rw [k2]
    have e8 : j_up M1 o 2 (nI ((nx + 1) % 8)) o 3 = M1 o 3 := j_up_k (by decide)
    rw [e8, k3, hM3]
  · refine ⟨(nx + 1) % 8, R.set nx (nI r), f_up ds nx xs, by omega, ?_, ?_, ?_, (p1.frame e2 (by omega)).frame F3 (by omega), by rw [List.length_set]; exact h6, ?_, ?_⟩
    · rw [hM3, j_up_k (by decide), j_up_s]
    · rw [hM3, j_up_s]
      congr 1
      simp only [List.length_take, List.length_cons]
      omega
    · simp only [List.length_take]; omega
    · exact (((h7.frame f1 (by omega)).set e2 e3)).frame F3 (by omega)
    · intro k hk
      simp only [List.length_take, List.length_cons] at hk
      rw [List.getElem?_take_of_lt (by omega)]
      cases k with
      | zero =>
        have e : ((nx + 1) % 8 + 7 - 0) % 8 = nx := by omega
        rw [e, f_up_s, List.getElem?_set_self hnR]
        show _ ∧ nI r = nI (nI r).toNatClampNeg
        rw [nI_clamp (by omega)]
        refine ⟨?_, rfl⟩
        show some (r, xs) = some ((nI r).toNatClampNeg, xs)
        rw [nI_clamp (by omega)]
      | succ k =>
        have e : ((nx + 1) % 8 + 7 - (k + 1)) % 8 = (nx + 7 - k) % 8 := by omega
        have e2 : (nx + 7 - k) % 8 ≠ nx := by omega
        rw [e, f_up_n e2, List.getElem?_set_ne (Ne.symm e2)]
        exact h8 k (by omega)
theorem p_hsTakeBack (hy : HsAt Y o) {r : Nat} {xs : List Int32} (h : HS M o ((r, xs) :: hs)) (hr : r < 4) {q : Nat} {ds : Nat → List Int32} (hyq : ShAt Y q 4) (hq : SH M q 4 ds) (hd : q + 12 ≤ o ∨ o + 23 ≤ q) :
    ∃ M' M1, s_X2_takeBack Y M o q = some (nI r, M') ∧ JFr o (o + 23) M M1 ∧ JFr (q + 4) (q + 12) M1 M' ∧ HS M' o hs ∧ SH M' q 4 (f_up ds r xs) := by
  obtain ⟨nx, R, es, h1, h2, h3, h4, h5, h6, h7, h8⟩ := h
  obtain ⟨y1, y2, y3, y4⟩ := hy
  have h4' : hs.length + 1 ≤ 8 := h4
  have k0 := h8 0 (Nat.succ_pos _)
  rw [Nat.sub_zero] at k0
  obtain ⟨k1, k2⟩ := k0
  have k3 : (r, xs) = (((R[(nx + 7) % 8]?).getD 0).toNatClampNeg, es ((nx + 7) % 8)) := Option.some.inj k1
  have k4 : r = ((R[(nx + 7) % 8]?).getD 0).toNatClampNeg := congrArg Prod.fst k3
  have k5 : xs = es ((nx + 7) % 8) := congrArg Prod.snd k3
  rw [← k4] at k2
  have m2 : (if M o 2 ≤ 0 then (7 : Int32) else M o 2 - 1) = nI ((nx + 7) % 8) := by
    rw [h2]
    by_cases e : nx = 0
    · rw [e]; decide
    · rw [if_neg (nI_nle (by omega) (by omega)), show (nx + 7) % 8 = nx - 1 by omega]
      have := nI_pd (nx - 1)
      rw [Nat.sub_add_cancel (by omega)] at this
      exact this
  obtain ⟨M2, hM2⟩ : ∃ z, z = j_up (j_up M o 2 (nI ((nx + 7) % 8))) o 3 (nI hs.length) := ⟨_, rfl⟩
  have F2 : JFr o (o + 1) M M2 := by rw [hM2]; exact JFr.up.trans JFr.up
  have hlt : (nx + 7) % 8 < 8 := Nat.mod_lt _ (by decide)
  obtain ⟨M', e1, e2, e3⟩ := p_become (M := M2) (hyq.2.2.2.2 r hr).2 (y2.2.2.2.2 ((nx + 7) % 8) hlt).2 ((h7 _ hlt).frame F2 (by omega)) (by omega) (h7 _ hlt).2.1
  refine ⟨M', M2, ?_, F2.mono (Nat.le_refl _) (by omega), e2.mono (by omega) (by omega), ?_, ?_⟩
  · unfold s_X2_takeBack
    dsimp only [lt_]
    rw [m2]
    have e8 : j_up M o 2 (nI ((nx + 7) % 8)) o 3 - 1 = nI hs.length := by
      rw [j_up_k (by decide), h3]
      exact nI_pd _
    rw [e8, ← hM2, y1, y3]
    have e9 : M2 o 2 = nI ((nx + 7) % 8) := by rw [hM2, j_up_k (by decide), j_up_s]
    have e10 : s_X4_at Y M2 (o + 21) (nI ((nx + 7) % 8)) = nI r := by
      rw [p_at y4 (h5.frame F2 (by omega)), l_at_lt (by omega) (by omega)]
      rw [List.getElem?_eq_getElem (by omega)] at k2
      exact k2
    rw [e9, e10, p_place hyq hr, p_place y2 hlt, e1]
    rfl
  · refine ⟨(nx + 7) % 8, R, es, hlt, ?_, ?_, by omega, (h5.frame F2 (by omega)).frame e2 (by omega), h6, (h7.frame F2 (by omega)).frame e2 (by omega), fun k hk => ?_⟩
    · rw [e2 o (by omega), hM2, j_up_k (by decide), j_up_s]
    · rw [e2 o (by omega), hM2, j_up_s]
    · have := h8 (k + 1) (Nat.succ_lt_succ hk)
      rw [show ((nx + 7) % 8 + 7 - k) % 8 = (nx + 7 - (k + 1)) % 8 by omega]
      exact this
  · rw [← k5] at e3
    exact (hq.frame F2 (by omega)).set e2 e3
end HSS

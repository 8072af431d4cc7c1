/-! ===== pure: more of Lines ===== -/
theorem nI_sb {a b : Nat} (h : b ≤ a) : nI a - nI b = nI (a - b) := by
  have e : nI a = nI (a - b) + nI b := by rw [nI_add, Nat.sub_add_cancel h]
  rw [e, Int32.add_sub_cancel]
theorem nI_dec (a : Nat) : nI (a + 1) + (-1) = nI a := by
  rw [nI_succ, Int32.add_assoc, show (1 : Int32) + -1 = 0 by decide, Int32.add_zero]
theorem nI_pd (a : Nat) : nI (a + 1) - 1 = nI a := nI_pred a
def l_ins (xs : List Int32) (p : Nat) (v : Int32) : List Int32 := xs.take p ++ v :: xs.drop p
def l_del (xs : List Int32) (p : Nat) : List Int32 := xs.take p ++ xs.drop (p + 1)
theorem l_ins_len {xs : List Int32} {p : Nat} {v : Int32} (h : p ≤ xs.length) : (l_ins xs p v).length = xs.length + 1 := by
  simp only [l_ins, List.length_append, List.length_take, List.length_cons, List.length_drop]
  omega
theorem l_del_len {xs : List Int32} {p : Nat} (h : p < xs.length) : (l_del xs p).length = xs.length - 1 := by
  simp only [l_del, List.length_append, List.length_take, List.length_drop]
  omega
theorem l_ins_set {xs : List Int32} {p : Nat} {w v : Int32} (h : p ≤ xs.length) : (l_ins xs p w).set p v = l_ins xs p v := by
  unfold l_ins
  have e : (xs.take p).length = p := by simp only [List.length_take]; omega
  rw [List.set_append_right _ _ (by omega), e, Nat.sub_self, List.set_cons_zero]
theorem l_ins_at {xs : List Int32} {p i : Nat} {w : Int32} (h : p ≤ xs.length) (hi : i < p) : (l_ins xs p w)[i]? = xs[i]? := by
  unfold l_ins
  rw [List.getElem?_append_left (by simp only [List.length_take]; omega), List.getElem?_take_of_lt hi]
theorem l_ins_down {xs : List Int32} {p : Nat} {w : Int32} (h : p < xs.length) : l_ins xs (p + 1) xs[p] = l_ins xs p xs[p] := by
  unfold l_ins
  rw [List.drop_eq_getElem_cons h, ← List.take_append_getElem h, List.append_assoc]
  rfl
def l_once (xs : List Int32) (v : Int32) : Bool := match l_find xs v 0 xs.length with
  | none => false
  | some j => (l_find xs v (j + 1) (xs.length - (j + 1))).isNone
def l_cnt (xs : List Int32) (v : Int32) : Nat → Nat → Nat
  | _, 0 => 0
  | b, k + 1 => (if (xs[b]?).getD (-1) = v then 1 else 0) + l_cnt xs v (b + 1) k
theorem l_cnt_s {xs : List Int32} {v : Int32} (b k : Nat) : l_cnt xs v b (k + 1) = (if (xs[b]?).getD (-1) = v then 1 else 0) + l_cnt xs v (b + 1) k := rfl
theorem l_find_s {xs : List Int32} {v : Int32} (b k : Nat) : l_find xs v b (k + 1) = if (xs[b]?).getD (-1) = v then some b else l_find xs v (b + 1) k := rfl
theorem l_cnt_le {xs : List Int32} {v : Int32} : ∀ (k b : Nat), l_cnt xs v b k ≤ k := by
  intro k
  induction k with
  | zero => intro b; exact Nat.le_refl _
  | succ k ih =>
    intro b
    unfold l_cnt
    have := ih (b + 1)
    split <;> omega
theorem l_cnt_none {xs : List Int32} {v : Int32} : ∀ (k b : Nat), l_find xs v b k = none ↔ l_cnt xs v b k = 0 := by
  intro k
  induction k with
  | zero => intro b; simp [l_find, l_cnt]
  | succ k ih =>
    intro b
    unfold l_find l_cnt
    by_cases e : (xs[b]?).getD (-1) = v
    · simp [e]
    · rw [if_neg e, if_neg e, ih (b + 1), Nat.zero_add]
theorem l_cnt_some {xs : List Int32} {v : Int32} : ∀ (k b j : Nat), l_find xs v b k = some j → l_cnt xs v b k = 1 + l_cnt xs v (j + 1) (b + k - (j + 1)) := by
  intro k
  induction k with
  | zero => intro b j h; cases h
  | succ k ih =>
    intro b j h
    have hj := l_find_lt h
    rw [l_find_s] at h
    rw [l_cnt_s]
    by_cases e : (xs[b]?).getD (-1) = v
    · rw [if_pos e] at h
      cases h
      rw [if_pos e, show b + (k + 1) - (b + 1) = k by omega]
    · rw [if_neg e] at h
      rw [if_neg e, Nat.zero_add, ih (b + 1) j h, show b + 1 + k - (j + 1) = b + (k + 1) - (j + 1) by omega]
theorem l_once_cnt {xs : List Int32} {v : Int32} : l_once xs v = true ↔ l_cnt xs v 0 xs.length = 1 := by
  unfold l_once
  cases hf : l_find xs v 0 xs.length with
  | none =>
    have := (l_cnt_none xs.length 0).mp hf
    simp only
    constructor
    · intro c; cases c
    · intro c; omega
  | some j =>
    have h1 := l_cnt_some _ _ _ hf
    rw [Nat.zero_add] at h1
    have h2 := l_cnt_none (xs := xs) (v := v) (xs.length - (j + 1)) (j + 1)
    simp only [Option.isNone_iff_eq_none]
    rw [h2]
    omega
section LPT
variable {Y : JY} {M : JM} {o cap : Nat} {xs : List Int32}
theorem p_isOnce_loop (hy : LnAt Y o cap) (h : LN M o cap xs) (v : Int32) : ∀ (k i c n : Nat), xs.length = i + k → k < n → c ≤ i → lp_X4_isOnce_1 Y M o v n (nI c) (nI i) = some (nI (c + l_cnt xs v i k)) := by
  have h2 := h.2.1
  have h3 := hy.2.2
  intro k
  induction k with
  | zero =>
    intro i c n he hn hc
    obtain ⟨n, rfl⟩ : ∃ z, n = z + 1 := ⟨n - 1, by omega⟩
    unfold lp_X4_isOnce_1
    rw [h.1, if_pos (nI_le (by omega) (by omega))]
    rfl
  | succ k ih =>
    intro i c n he hn hc
    obtain ⟨n, rfl⟩ : ∃ z, n = z + 1 := ⟨n - 1, by omega⟩
    unfold lp_X4_isOnce_1
    rw [h.1, if_neg (nI_ge (by omega) (by omega)), p_at hy h, l_at_nI (by omega), l_cnt_s]
    dsimp only [lt_]
    by_cases q : (xs[i]?).getD (-1) = v
    · rw [if_pos q, if_pos q, nI_1, nI_1, ih (i + 1) (c + 1) n (by omega) (by omega) (by omega), Nat.add_assoc]
    · rw [if_neg q, if_neg q, nI_1, ih (i + 1) c n (by omega) (by omega) (by omega), Nat.zero_add]
theorem p_isOnce (hy : LnAt Y o cap) (h : LN M o cap xs) (v : Int32) : s_X4_isOnce Y M o v = some (if l_once xs v then 1 else 0) := by
  have h2 := h.2.1
  have h3 := hy.2.2
  have hc := l_cnt_le (xs := xs) (v := v) xs.length 0
  have e := p_isOnce_loop hy h v xs.length 0 0 j_fuel (by omega) (j_fuel_gt (by omega)) (Nat.le_refl _)
  rw [nI_0, Nat.zero_add] at e
  unfold s_X4_isOnce
  rw [e]
  dsimp only [Option.bind]
  by_cases q : l_once xs v = true
  · rw [if_pos q, l_once_cnt.mp q]
    rfl
  · rw [if_neg q, if_neg (show ¬ nI (l_cnt xs v 0 xs.length) = (1 : Int32) from fun c => q (l_once_cnt.mpr ((nI_eq (b := 1) (by omega) (by decide)).mp c)))]
theorem p_samePart_loop (hy : LnAt Y o cap) (h : LN M o cap xs) {q capq : Nat} {ys : List Int32} (hyq : LnAt Y q capq) (hq : LN M q capq ys) (b e b' : Nat) (he : e < 1000) (hb' : b' < 1000) (hbe : b ≤ e) :
    ∀ (k i n : Nat), e = i + k → b ≤ i → k < n → lp_X4_samePart_1 Y (nI e) M o q (nI b') (nI b) n (nI i) = some (if ∀ t, t < k → (xs[i + t]?).getD (-1) = (ys[b' + (i - b) + t]?).getD (-1) then 1 else 0) := by
  intro k
  induction k with
  | zero =>
    intro i n he' hb hn
    obtain ⟨n, rfl⟩ : ∃ z, n = z + 1 := ⟨n - 1, by omega⟩
    unfold lp_X4_samePart_1
    rw [if_pos (nI_le (by omega) (by omega)), if_pos (fun t ht => absurd ht (Nat.not_lt_zero _))]
  | succ k ih =>
    intro i n he' hb hn
    obtain ⟨n, rfl⟩ : ∃ z, n = z + 1 := ⟨n - 1, by omega⟩
    unfold lp_X4_samePart_1
    rw [if_neg (nI_ge (by omega) (by omega)), p_at hy h, p_at hyq hq, l_at_nI (by omega), nI_add, nI_sb (by omega), l_at_nI (by omega)]
    rw [show b' + i - b = b' + (i - b) by omega]
    by_cases q1 : (xs[i]?).getD (-1) = (ys[b' + (i - b)]?).getD (-1)
    · rw [if_pos q1]
      dsimp only [lt_]
      rw [nI_1, ih (i + 1) n (by omega) (by omega) (by omega)]
      congr 1
      by_cases q2 : ∀ t, t < k → (xs[i + 1 + t]?).getD (-1) = (ys[b' + (i + 1 - b) + t]?).getD (-1)
      · rw [if_pos q2, if_pos]
        intro t ht
        cases t with
        | zero => exact q1
        | succ t =>
          have := q2 t (by omega)
          rw [show i + (t + 1) = i + 1 + t by omega, show b' + (i - b) + (t + 1) = b' + (i + 1 - b) + t by omega]
          exact this
      · rw [if_neg q2, if_neg]
        intro c
        apply q2
        intro t ht
        have := c (t + 1) (by omega)
        rw [show i + (t + 1) = i + 1 + t by omega, show b' + (i - b) + (t + 1) = b' + (i + 1 - b) + t by omega] at this
        exact this
    · rw [if_neg q1, if_neg]
      intro c
      exact q1 (c 0 (by omega))
theorem l_seg_eq {ys : List Int32} {b e b' e' : Nat} (he : e ≤ xs.length) (he' : e' ≤ ys.length) (hl : e - b = e' - b') (hb' : b' ≤ e') : (l_seg xs b e = l_seg ys b' e') ↔ ∀ t, t < e - b → (xs[b + t]?).getD (-1) = (ys[b' + t]?).getD (-1) := by
  constructor
  · intro h t ht
    have h1 := l_seg_at (ys := xs) ht
    have h2 := l_seg_at (ys := ys) (b := b') (e := e') (i := t) (by omega)
    rw [← h1, ← h2, h]
  · intro h
    apply List.ext_getElem?
    intro i
    by_cases hi : i < e - b
    · rw [l_seg_at hi, l_seg_at (by omega)]
      have := h i hi
      rw [List.getElem?_eq_getElem (by omega), List.getElem?_eq_getElem (by omega)] at this ⊢
      exact congrArg some this
    · rw [List.getElem?_eq_none (by rw [l_seg_len he]; omega), List.getElem?_eq_none (by rw [l_seg_len he']; omega)]
theorem p_samePart (hy : LnAt Y o cap) (h : LN M o cap xs) {q capq : Nat} {ys : List Int32} (hyq : LnAt Y q capq) (hq : LN M q capq ys) {b e b' e' : Nat} (hb : b ≤ e) (he : e ≤ xs.length) (hb' : b' ≤ e') (he' : e' ≤ ys.length) :
    s_X4_samePart Y M o (nI b) (nI e) q (nI b') (nI e') = some (if l_seg xs b e = l_seg ys b' e' then 1 else 0) := by
  have h2 := h.2.1
  have h3 := hy.2.2
  have h4 := hq.2.1
  have h5 := hyq.2.2
  unfold s_X4_samePart
  rw [nI_sb hb, nI_sb hb']
  by_cases q1 : e - b = e' - b'
  · rw [if_pos (by rw [q1]), p_samePart_loop hy h hyq hq b e b' (by omega) (by omega) hb (e - b) b j_fuel (by omega) (Nat.le_refl _) (j_fuel_gt (by omega))]
    show some _ = some _
    congr 1
    rw [Nat.sub_self, Nat.add_zero]
    by_cases q2 : l_seg xs b e = l_seg ys b' e'
    · rw [if_pos q2, if_pos ((l_seg_eq he he' q1 hb').mp q2)]
    · rw [if_neg q2, if_neg (fun c => q2 ((l_seg_eq he he' q1 hb').mpr c))]
  · rw [if_neg (fun c => q1 ((nI_eq (by omega) (by omega)).mp c)), if_neg]
    intro c
    have := congrArg List.length c
    rw [l_seg_len he, l_seg_len he'] at this
    exact q1 this
theorem p_pushAt_loop (hy : LnAt Y o cap) (p : Nat) : ∀ (k i n : Nat) (M : JM) (w : Int32), i = p + k → i ≤ xs.length → k < n → LN M o cap (l_ins xs i w) →
      ∃ M' w', lp_X4_pushAt_1 Y (nI p) o n (nI i) M = some M' ∧ JFr o (o + 2) M M' ∧ LN M' o cap (l_ins xs p w') := by
  intro k
  have h3 := hy.2.2
  induction k with
  | zero =>
    intro i n M w hi hl hn h
    have h2 := h.2.1
    rw [l_ins_len hl] at h2
    obtain ⟨n, rfl⟩ : ∃ z, n = z + 1 := ⟨n - 1, by omega⟩
    refine ⟨M, w, ?_, JFr.refl, ?_⟩
    · unfold lp_X4_pushAt_1
      rw [if_pos (nI_le (by omega) (by omega))]
    · rw [show p = i by omega]
      exact h
  | succ k ih =>
    intro i n M w hi hl hn h
    have h2 := h.2.1
    rw [l_ins_len hl] at h2
    obtain ⟨n, rfl⟩ : ∃ z, n = z + 1 := ⟨n - 1, by omega⟩
    obtain ⟨i, rfl⟩ : ∃ z, i = z + 1 := ⟨i - 1, by omega⟩
    have hx : i < xs.length := by omega
    have ha : l_at (l_ins xs (i + 1) w) (nI i) = xs[i] := by
      rw [l_at_nI (by omega), l_ins_at hl (by omega), List.getElem?_eq_getElem hx]
      rfl
    have hlen : i + 1 < (l_ins xs (i + 1) w).length := by rw [l_ins_len hl]; omega
    have hp := p_put_LN hy h hlen xs[i]
    rw [l_ins_set hl, l_ins_down (w := w) hx] at hp
    obtain ⟨M', w', e1, e2, e3⟩ := ih i n _ _ (by omega) (by omega) (by omega) hp
    refine ⟨M', w', ?_, (p_put_fr hy h hlen _).trans e2, e3⟩
    unfold lp_X4_pushAt_1
    rw [if_neg (nI_ge (by omega) (by omega))]
    dsimp only [lt_]
    rw [nI_pd, p_at hy h, ha, nI_dec]
    exact e1
theorem p_pushAt (hy : LnAt Y o cap) (h : LN M o cap xs) {p : Nat} (hp : p ≤ xs.length) (hc : xs.length < cap) (v : Int32) :
    ∃ M', s_X4_pushAt Y M o (nI p) v = some M' ∧ JFr o (o + 2) M M' ∧ LN M' o cap (l_ins xs p v) := by
  have h3 := hy.2.2
  have h0 := p_push_LN hy h hc v
  have e0 : xs ++ [v] = l_ins xs xs.length v := by simp [l_ins]
  have h1 := h0
  rw [e0] at h1
  obtain ⟨M', w', e1, e2, e3⟩ := p_pushAt_loop hy p (xs.length - p) xs.length j_fuel _ v (by omega) (Nat.le_refl _) (j_fuel_gt (by omega)) h1
  have hl : p < (l_ins xs p w').length := by rw [l_ins_len hp]; omega
  have h4 := p_put_LN hy e3 hl v
  rw [l_ins_set hp] at h4
  refine ⟨_, ?_, ((p_push_fr hy h hc v).trans e2).trans (p_put_fr hy e3 hl v), h4⟩
  unfold s_X4_pushAt
  dsimp only [lt_]
  rw [h0.1, List.length_append, List.length_singleton, nI_pd, e1]
  rfl
theorem LN.cut (h : LN M o cap xs) {m : Nat} (hm : m ≤ xs.length) : LN (j_up M o 1 (nI m)) o cap (xs.take m) := by
  obtain ⟨h1, h2, h3⟩ := h
  refine ⟨?_, by simp only [List.length_take]; omega, fun i hi => ?_⟩
  · rw [j_up_s, List.length_take, Nat.min_eq_left hm]
  · simp only [List.length_take] at hi
    rw [j_up_o (by omega), List.getElem?_take_of_lt (by omega)]
    exact h3 i (by omega)
theorem p_removeAt_loop (hy : LnAt Y o cap) (p : Nat) (hp : p < xs.length) : ∀ (k i n : Nat) (M : JM), xs.length = i + k + 1 → p ≤ i → k < n → LN M o cap ((l_del xs p).take i ++ xs.drop i) →
      ∃ M', lp_X4_removeAt_1 Y o n (nI i) M = some M' ∧ JFr o (o + 2) M M' ∧ LN M' o cap ((l_del xs p).take (xs.length - 1) ++ xs.drop (xs.length - 1)) := by
  intro k
  have h3 := hy.2.2
  have hd := l_del_len hp
  have hL : ∀ i, i < xs.length → ((l_del xs p).take i ++ xs.drop i).length = xs.length := by
    intro i hi
    simp only [List.length_append, List.length_take, List.length_drop]
    omega
  induction k with
  | zero =>
    intro i n M hi hpi hn h
    have h2 := h.2.1
    rw [hL i (by omega)] at h2
    obtain ⟨n, rfl⟩ : ∃ z, n = z + 1 := ⟨n - 1, by omega⟩
    refine ⟨M, ?_, JFr.refl, ?_⟩
    · unfold lp_X4_removeAt_1
      rw [h.1, hL i (by omega), show xs.length = i + 1 by omega, nI_pd, if_pos (nI_le (Nat.le_refl _) (by omega))]
    · rw [show xs.length - 1 = i by omega]
      exact h
  | succ k ih =>
    intro i n M hi hpi hn h
    have h2 := h.2.1
    rw [hL i (by omega)] at h2
    obtain ⟨n, rfl⟩ : ∃ z, n = z + 1 := ⟨n - 1, by omega⟩
    have hx : i + 1 < xs.length := by omega
    have htk : ((l_del xs p).take i).length = i := by simp only [List.length_take]; omega
    have ha : l_at ((l_del xs p).take i ++ xs.drop i) (nI (i + 1)) = xs[i + 1] := by
      rw [l_at_nI (by omega), List.getElem?_append_right (by omega), htk, List.getElem?_drop, show i + (i + 1 - i) = i + 1 by omega, List.getElem?_eq_getElem hx]
      rfl
    have hlen : i < ((l_del xs p).take i ++ xs.drop i).length := by rw [hL i (by omega)]; omega
    have hq := p_put_LN hy h hlen xs[i + 1]
    have hdi : (l_del xs p)[i]? = some xs[i + 1] := by
      unfold l_del
      rw [List.getElem?_append_right (by simp only [List.length_take]; omega), List.length_take, Nat.min_eq_left (by omega), List.getElem?_drop, show p + 1 + (i - p) = i + 1 by omega, List.getElem?_eq_getElem hx]
    have hset : ((l_del xs p).take i ++ xs.drop i).set i xs[i + 1] = (l_del xs p).take (i + 1) ++ xs.drop (i + 1) := by
      rw [List.set_append_right _ _ (by omega), htk, Nat.sub_self, List.drop_eq_getElem_cons (i := i) (by omega), List.set_cons_zero, List.take_succ, hdi, List.append_assoc]
      rfl
    rw [hset] at hq
    obtain ⟨M', e1, e2, e3⟩ := ih (i + 1) n _ (by omega) (by omega) (by omega) hq
    refine ⟨M', ?_, (p_put_fr hy h hlen _).trans e2, e3⟩
    unfold lp_X4_removeAt_1
    rw [h.1, hL i (by omega), show xs.length = (xs.length - 1) + 1 by omega, nI_pd, if_neg (nI_ge (by omega) (by omega))]
    dsimp only [lt_]
    rw [nI_1, p_at hy h, ha]
    exact e1
theorem p_removeAt (hy : LnAt Y o cap) (h : LN M o cap xs) {p : Nat} (hp : p < xs.length) :
    ∃ M', s_X4_removeAt Y M o (nI p) = some (xs[p], M') ∧ JFr o (o + 2) M M' ∧ LN M' o cap (l_del xs p) := by
  have h2 := h.2.1
  have h3 := hy.2.2
  have hd := l_del_len hp
  have e0 : (l_del xs p).take p ++ xs.drop p = xs := by
    unfold l_del
    rw [List.take_append_of_le_length (by simp only [List.length_take]; omega), List.take_take, Nat.min_self, List.take_append_drop]
  obtain ⟨M', e1, e2, e3⟩ := p_removeAt_loop hy p hp (xs.length - p - 1) p j_fuel M (by omega) (Nat.le_refl _) (j_fuel_gt (by omega)) (by rw [e0]; exact h)
  have hm : (l_del xs p).take (xs.length - 1) = l_del xs p := List.take_of_length_le (by omega)
  rw [hm] at e3
  have hlen : (l_del xs p ++ xs.drop (xs.length - 1)).length = xs.length := by
    simp only [List.length_append, List.length_drop]
    omega
  have e4 := e3.cut (m := xs.length - 1) (by omega)
  rw [List.take_left' (by omega)] at e4
  refine ⟨_, ?_, e2.trans (JFr.up.mono (Nat.le_refl _) (by omega)), e4⟩
  unfold s_X4_removeAt
  dsimp only [lt_]
  have hh : s_X4_has Y M o (nI p) = 1 := by rw [p_has hy h, nI_clamp (by omega), if_pos ⟨nI_pos (by omega), hp⟩]
  rw [hh, if_neg (by decide), e1, p_at hy h, l_at_lt (by omega) hp]
  show some _ = some _
  rw [e3.1, hlen]
  have e5 : nI xs.length - 1 = nI (xs.length - 1) := by
    have := nI_pd (xs.length - 1)
    rw [Nat.sub_add_cancel (by omega)] at this
    exact this
  rw [e5]
end LPT

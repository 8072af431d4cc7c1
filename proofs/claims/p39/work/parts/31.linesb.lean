/-! ===== pure: the loops of Lines ===== -/
theorem j_fuel_gt {n : Nat} (h : n < 9999) : n < j_fuel := by unfold j_fuel; omega
def l_seg (ys : List Int32) (b e : Nat) : List Int32 := (ys.drop b).take (e - b)
theorem l_seg_nil {ys : List Int32} {b e : Nat} (h : e ≤ b) : l_seg ys b e = [] := by
  unfold l_seg
  rw [Nat.sub_eq_zero_of_le h]
  rfl
theorem l_seg_step {ys : List Int32} {b e : Nat} (h : b < e) (h2 : b < ys.length) : l_seg ys b e = ys[b] :: l_seg ys (b + 1) e := by
  unfold l_seg
  rw [List.drop_eq_getElem_cons h2, show e - b = (e - (b + 1)) + 1 by omega, List.take_succ_cons]
theorem l_seg_all {ys : List Int32} : l_seg ys 0 ys.length = ys := by simp [l_seg]
theorem l_seg_len {ys : List Int32} {b e : Nat} (h : e ≤ ys.length) : (l_seg ys b e).length = e - b := by
  simp only [l_seg, List.length_take, List.length_drop]
  omega
theorem l_seg_at {ys : List Int32} {b e i : Nat} (h : i < e - b) : (l_seg ys b e)[i]? = ys[b + i]? := by
  unfold l_seg
  rw [List.getElem?_take_of_lt h, List.getElem?_drop]
section LPS
variable {Y : JY} {M : JM} {o cap : Nat} {xs : List Int32}
/-- the source of a copy: what stands at b..e-1, also while the target grows -/
theorem p_pushPart_loop (hy : LnAt Y o cap) {q : Nat} {f : Nat → Int32} (e : Nat) (he : e < 1000) (S : JM → List Int32 → Prop)
    (hS : ∀ M xs b, S M xs → LN M o cap xs → b < e → s_X4_at Y M q (nI b) = f b) (hS2 : ∀ M xs v, S M xs → LN M o cap xs → xs.length < cap → S (s_X4_push Y M o v) (xs ++ [v])) :
    ∀ (k b n : Nat) (M : JM) (xs : List Int32), e = b + k → k < n → LN M o cap xs → xs.length + k ≤ cap → S M xs →
      ∃ M', lp_X4_pushPart_1 Y (nI e) o q n (nI b) M = some M' ∧ JFr o (o + 2) M M' ∧ LN M' o cap (xs ++ (List.range k).map (fun i => f (b + i))) := by
  intro k
  induction k with
  | zero =>
    intro b n M xs he' hn h hc hs
    obtain ⟨n, rfl⟩ : ∃ z, n = z + 1 := ⟨n - 1, by omega⟩
    refine ⟨M, ?_, JFr.refl, by simpa using h⟩
    unfold lp_X4_pushPart_1
    rw [if_pos (nI_le (by omega) (by omega))]
  | succ k ih =>
    intro b n M xs he' hn h hc hs
    obtain ⟨n, rfl⟩ : ∃ z, n = z + 1 := ⟨n - 1, by omega⟩
    have hc1 : xs.length < cap := by omega
    obtain ⟨M', e1, e2, e3⟩ := ih (b + 1) n (s_X4_push Y M o (f b)) (xs ++ [f b]) (by omega) (by omega) (p_push_LN hy h hc1 _) (by simp; omega) (hS2 M xs _ hs h hc1)
    refine ⟨M', ?_, (p_push_fr hy h hc1 _).trans e2, ?_⟩
    · unfold lp_X4_pushPart_1
      rw [if_neg (nI_ge (by omega) (by omega))]
      dsimp only [lt_]
      rw [hS M xs b hs h (by omega), nI_1]
      exact e1
    · have e4 : xs ++ (List.range (k + 1)).map (fun i => f (b + i)) = (xs ++ [f b]) ++ (List.range k).map (fun i => f (b + 1 + i)) := by
        rw [List.range_succ_eq_map, List.map_cons, List.map_map, List.append_assoc]
        congr 2
        apply List.map_congr_left
        intro i _
        show f (b + (i + 1)) = f (b + 1 + i)
        congr 1
        omega
      rw [e4]
      exact e3
theorem l_seg_map {ys : List Int32} {b k : Nat} (h : b + k ≤ ys.length) : (List.range k).map (fun i => (ys[b + i]?).getD (-1)) = l_seg ys b (b + k) := by
  apply List.ext_getElem?
  intro i
  by_cases hi : i < k
  · rw [l_seg_at (by omega), List.getElem?_map, List.getElem?_range hi]
    have : b + i < ys.length := by omega
    simp [List.getElem?_eq_getElem this]
  · rw [List.getElem?_eq_none (by simp; omega), List.getElem?_eq_none (by rw [l_seg_len h]; omega)]
theorem p_pushPart (hy : LnAt Y o cap) (h : LN M o cap xs) {q capq : Nat} {ys : List Int32} (hyq : LnAt Y q capq) (hq : LN M q capq ys) (hd : q + 2 ≤ o ∨ o + 2 ≤ q) {b e : Nat} (hb : b ≤ e) (he : e ≤ ys.length) (hc : xs.length + (e - b) ≤ cap) :
    ∃ M', s_X4_pushPart Y M o q (nI b) (nI e) = some M' ∧ JFr o (o + 2) M M' ∧ LN M' o cap (xs ++ l_seg ys b e) := by
  have := hq.2.1
  have := hyq.2.2
  obtain ⟨M', e1, e2, e3⟩ := p_pushPart_loop hy (q := q) (f := fun b => (ys[b]?).getD (-1)) e (by omega) (fun M _ => LN M q capq ys)
    (fun M xs b hs _ hb => by rw [p_at hyq hs, l_at_nI (by omega)]) (fun M xs v hs h hc => hs.frame (p_push_fr hy h hc v) hd) (e - b) b j_fuel M xs (by omega) (j_fuel_gt (by omega)) h hc hq
  refine ⟨M', ?_, e2, ?_⟩
  · unfold s_X4_pushPart
    rw [e1]
    rfl
  · have e5 := l_seg_map (ys := ys) (b := b) (k := e - b) (by omega)
    rw [show b + (e - b) = e by omega] at e5
    rw [← e5]
    exact e3
theorem p_pushPart_self (hy : LnAt Y o cap) (h : LN M o cap xs) {b e : Nat} (hb : b ≤ e) (he : e ≤ xs.length) (hc : xs.length + (e - b) ≤ cap) :
    ∃ M', s_X4_pushPart Y M o o (nI b) (nI e) = some M' ∧ JFr o (o + 2) M M' ∧ LN M' o cap (xs ++ l_seg xs b e) := by
  have := h.2.1
  have := hy.2.2
  obtain ⟨M', e1, e2, e3⟩ := p_pushPart_loop hy (q := o) (f := fun b => (xs[b]?).getD (-1)) e (by omega) (fun _ zs => ∃ t, zs = xs ++ t)
    (fun M zs b hs hz hb => by
      obtain ⟨t, rfl⟩ := hs
      rw [p_at hy hz, l_at_nI (by omega), List.getElem?_append_left (by omega)])
    (fun M zs v hs h hc => by
      obtain ⟨t, rfl⟩ := hs
      exact ⟨t ++ [v], by rw [List.append_assoc]⟩) (e - b) b j_fuel M xs (by omega) (j_fuel_gt (by omega)) h hc ⟨[], by simp⟩
  refine ⟨M', ?_, e2, ?_⟩
  · unfold s_X4_pushPart
    rw [e1]
    rfl
  · have e5 := l_seg_map (ys := xs) (b := b) (k := e - b) (by omega)
    rw [show b + (e - b) = e by omega] at e5
    rw [← e5]
    exact e3
theorem p_become (hy : LnAt Y o cap) {q capq : Nat} {ys : List Int32} (hyq : LnAt Y q capq) (hq : LN M q capq ys) (hd : q + 2 ≤ o ∨ o + 2 ≤ q) (hc : ys.length ≤ cap) :
    ∃ M', s_X4_become Y M o q = some M' ∧ JFr o (o + 2) M M' ∧ LN M' o cap ys := by
  obtain ⟨M', e1, e2, e3⟩ := p_pushPart (b := 0) (e := ys.length) hy (p_clear_LN (Y := Y) (M := M) (o := o) (cap := cap)) hyq (hq.frame p_clear_fr hd) hd (Nat.zero_le _) (Nat.le_refl _) (by simp; exact hc)
  refine ⟨M', ?_, p_clear_fr.trans e2, by rw [l_seg_all] at e3; exact e3⟩
  unfold s_X4_become
  rw [if_neg (by omega)]
  dsimp only [lt_]
  rw [p_size (hq.frame p_clear_fr hd)]
  rw [nI_0] at e1
  rw [e1]
  rfl
theorem p_become_self (hq : LN M o cap xs) : s_X4_become Y M o o = some M := by
  unfold s_X4_become
  rw [if_pos rfl]
theorem p_fillWith_loop (hy : LnAt Y o cap) (v : Int32) (e : Nat) (he : e < 1000) : ∀ (k b n : Nat) (M : JM) (xs : List Int32), e = b + k → k < n → LN M o cap xs → xs.length + k ≤ cap →
      ∃ M', lp_X4_fillWith_1 Y (nI e) o v n (nI b) M = some M' ∧ JFr o (o + 2) M M' ∧ LN M' o cap (xs ++ List.replicate k v) := by
  intro k
  induction k with
  | zero =>
    intro b n M xs he' hn h hc
    obtain ⟨n, rfl⟩ : ∃ z, n = z + 1 := ⟨n - 1, by omega⟩
    refine ⟨M, ?_, JFr.refl, by simpa using h⟩
    unfold lp_X4_fillWith_1
    rw [if_pos (nI_le (by omega) (by omega))]
  | succ k ih =>
    intro b n M xs he' hn h hc
    obtain ⟨n, rfl⟩ : ∃ z, n = z + 1 := ⟨n - 1, by omega⟩
    have hc1 : xs.length < cap := by omega
    obtain ⟨M', e1, e2, e3⟩ := ih (b + 1) n (s_X4_push Y M o v) (xs ++ [v]) (by omega) (by omega) (p_push_LN hy h hc1 _) (by simp; omega)
    refine ⟨M', ?_, (p_push_fr hy h hc1 _).trans e2, ?_⟩
    · unfold lp_X4_fillWith_1
      rw [if_neg (nI_ge (by omega) (by omega))]
      dsimp only [lt_]
      rw [nI_1]
      exact e1
    · rw [List.replicate_succ, show xs ++ v :: List.replicate k v = (xs ++ [v]) ++ List.replicate k v by simp]
      exact e3
theorem p_fillWith (hy : LnAt Y o cap) (v : Int32) {k : Nat} (hc : k ≤ cap) : ∃ M', s_X4_fillWith Y M o v (nI k) = some M' ∧ JFr o (o + 2) M M' ∧ LN M' o cap (List.replicate k v) := by
  have := hy.2.2
  obtain ⟨M', e1, e2, e3⟩ := p_fillWith_loop hy v k (by omega) k 0 j_fuel _ [] (by omega) (j_fuel_gt (by omega)) (p_clear_LN (Y := Y) (M := M) (o := o) (cap := cap)) (by simp; omega)
  refine ⟨M', ?_, p_clear_fr.trans e2, by simpa using e3⟩
  unfold s_X4_fillWith
  dsimp only [lt_]
  rw [nI_0] at e1
  rw [e1]
  rfl
/-- the first place from b on, before e, at which v stands -/
def l_find (xs : List Int32) (v : Int32) (b : Nat) : Nat → Option Nat
  | 0 => none
  | k + 1 => if (xs[b]?).getD (-1) = v then some b else l_find xs v (b + 1) k
def oI : Option Nat → Int32
  | none => -1
  | some j => nI j
theorem p_find_loop (hy : LnAt Y o cap) (h : LN M o cap xs) (v : Int32) (e : Nat) (he : e < 1000) : ∀ (k b n : Nat), e = b + k → k < n → lp_X4_find_1 Y (nI e) M o v n (nI b) = some (oI (l_find xs v b k)) := by
  intro k
  induction k with
  | zero =>
    intro b n he' hn
    obtain ⟨n, rfl⟩ : ∃ z, n = z + 1 := ⟨n - 1, by omega⟩
    unfold lp_X4_find_1
    rw [if_pos (nI_le (by omega) (by omega))]
    rfl
  | succ k ih =>
    intro b n he' hn
    obtain ⟨n, rfl⟩ : ∃ z, n = z + 1 := ⟨n - 1, by omega⟩
    unfold lp_X4_find_1
    rw [if_neg (nI_ge (by omega) (by omega)), p_at hy h, l_at_nI (by omega)]
    unfold l_find
    by_cases q : (xs[b]?).getD (-1) = v
    · rw [if_pos q, if_pos q]
      rfl
    · rw [if_neg q, if_neg q]
      dsimp only [lt_]
      rw [nI_1]
      exact ih (b + 1) n (by omega) (by omega)
theorem p_find (hy : LnAt Y o cap) (h : LN M o cap xs) (v : Int32) {b e : Nat} (hb : b ≤ e) (he : e < 1000) : s_X4_find Y M o v (nI b) (nI e) = some (oI (l_find xs v b (e - b))) := by
  unfold s_X4_find
  rw [p_find_loop hy h v e he (e - b) b j_fuel (by omega) (j_fuel_gt (by omega))]
  rfl
theorem oI_none {x : Option Nat} (h : ∀ j, x = some j → j < 2 ^ 31) : oI x = -1 ↔ x = none := by
  cases x with
  | none => simp [oI]
  | some j =>
    have := h j rfl
    constructor
    · intro e
      exact absurd e (nI_m1 this)
    · intro e
      cases e
theorem l_find_lt {v : Int32} : ∀ {k b : Nat} {j : Nat}, l_find xs v b k = some j → b ≤ j ∧ j < b + k := by
  intro k
  induction k with
  | zero => intro b j h; cases h
  | succ k ih =>
    intro b j h
    unfold l_find at h
    split at h
    · cases h; omega
    · have := ih h; omega
theorem l_find_at {v : Int32} : ∀ {k b : Nat} {j : Nat}, l_find xs v b k = some j → (xs[j]?).getD (-1) = v := by
  intro k
  induction k with
  | zero => intro b j h; cases h
  | succ k ih =>
    intro b j h
    unfold l_find at h
    split at h
    · rename_i q; cases h; exact q
    · exact ih h
theorem l_find_first {v : Int32} : ∀ {k b : Nat} {j : Nat}, l_find xs v b k = some j → ∀ i, b ≤ i → i < j → (xs[i]?).getD (-1) ≠ v := by
  intro k
  induction k with
  | zero => intro b j h; cases h
  | succ k ih =>
    intro b j h i h1 h2
    unfold l_find at h
    split at h
    · cases h; omega
    · rename_i q
      by_cases e : i = b
      · subst e; exact q
      · exact ih h i (by omega) h2
theorem l_find_none {v : Int32} : ∀ {k b : Nat}, l_find xs v b k = none → ∀ i, b ≤ i → i < b + k → (xs[i]?).getD (-1) ≠ v := by
  intro k
  induction k with
  | zero => intro b h i h1 h2; omega
  | succ k ih =>
    intro b h i h1 h2
    unfold l_find at h
    split at h
    · cases h
    · rename_i q
      by_cases e : i = b
      · subst e; exact q
      · exact ih h i (by omega) (by omega)
end LPS

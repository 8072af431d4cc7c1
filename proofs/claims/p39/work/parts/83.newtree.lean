/-! ===== constructors: layouts put together ===== -/
def yt_cl (Y : JY) : Prop := 0 < Y.1.length ∧ ∀ o k, o < Y.1.length → j_rf Y o k < Y.1.length
def yt_kd : List (JY × JM) → List Nat
  | [] => []
  | t :: T => t.1.1 ++ yt_kd T
def yt_sz (T : List (JY × JM)) : Nat := (yt_kd T).length
def yt_rf : List (JY × JM) → Nat → Nat → Nat → Nat
  | [], _, _, _ => 0
  | t :: T, b, o, k => if o < t.1.1.length then b + j_rf t.1 o k else yt_rf T (b + t.1.1.length) (o - t.1.1.length) k
def yt_ln : List (JY × JM) → Nat → Nat
  | [], _ => 0
  | t :: T, o => if o < t.1.1.length then j_ln t.1 o else yt_ln T (o - t.1.1.length)
def mt_f : List (JY × JM) → JM
  | [], _, _ => 0
  | t :: T, o, k => if o < t.1.1.length then t.2 o k else mt_f T (o - t.1.1.length) k
def at_f : List (JY × JM) → List (Nat → Nat) → Nat → Nat
  | [], _, _ => 0
  | _ :: _, [], _ => 0
  | t :: T, f :: fs, o => if o < t.1.1.length then f o else at_f T fs (o - t.1.1.length)
def wt_f (ty : Nat → ClassId) : List (JY × JM) → List (Nat → Nat) → va_W
  | [], _ => []
  | _ :: _, [] => []
  | t :: T, f :: fs => j_w t.1 ty f t.2 ++ wt_f ty T fs
theorem j_en_eq {Y Y' : JY} {ty : Nat → ClassId} {ad ad' : Nat → Nat} {M M' : JM} {o o' : Nat} (hk : j_kd Y o = j_kd Y' o') (hl : j_ln Y o = j_ln Y' o') (hm : M o = M' o') (hr : ∀ k, ad (j_rf Y o k) = ad' (j_rf Y' o' k)) : j_en Y ty ad M o = j_en Y' ty ad' M' o' := by
  have hf : ∀ c, j_fs Y ad M o c = j_fs Y' ad' M' o' c := fun c => by
    unfold j_fs
    congr 1
    funext k f
    unfold j_fv
    rw [hr k, hm]
  unfold j_en
  rw [hk, hl, hm, hf]
  simp only [hr]
theorem yt_sz_cons (t : JY × JM) (T : List (JY × JM)) : yt_sz (t :: T) = t.1.1.length + yt_sz T := by
  show (t.1.1 ++ yt_kd T).length = _
  rw [List.length_append]
  rfl
theorem wt_eq {ty : Nat → ClassId} : ∀ (T : List (JY × JM)) (fs : List (Nat → Nat)) (off : Nat) (Y : JY) (ad : Nat → Nat) (M : JM), T.length = fs.length → (∀ t ∈ T, yt_cl t.1) →
    (∀ o, o < yt_sz T → j_kd Y (off + o) = (yt_kd T).getD o 999 ∧ j_ln Y (off + o) = yt_ln T o ∧ M (off + o) = mt_f T o ∧ (∀ k, j_rf Y (off + o) k = yt_rf T off o k) ∧ ad (off + o) = at_f T fs o) →
    (List.range (yt_sz T)).map (fun o => (ad (off + o), j_en Y ty ad M (off + o))) = wt_f ty T fs := by
  intro T
  induction T with
  | nil => intro fs off Y ad M h1 h2 h3; rfl
  | cons t T ih =>
    intro fs off Y ad M h1 h2 h3
    cases fs with
    | nil => exact absurd h1 (by simp)
    | cons f fs =>
      have hc : yt_cl t.1 := h2 t List.mem_cons_self
      have hsz := yt_sz_cons t T
      have a1 : ∀ o, o < t.1.1.length → j_kd Y (off + o) = j_kd t.1 o ∧ j_ln Y (off + o) = j_ln t.1 o ∧ M (off + o) = t.2 o ∧ (∀ k, j_rf Y (off + o) k = off + j_rf t.1 o k) ∧ ad (off + o) = f o := fun o ho => by
        obtain ⟨b1, b2, b3, b4, b5⟩ := h3 o (by omega)
        refine ⟨b1.trans ?_, b2.trans (if_pos ho), b3.trans (funext (fun k => if_pos ho)), fun k => (b4 k).trans (if_pos ho), b5.trans (if_pos ho)⟩
        show (t.1.1 ++ yt_kd T).getD o 999 = t.1.1.getD o 999
        rw [List.getD_eq_getElem?_getD, List.getElem?_append_left ho, ← List.getD_eq_getElem?_getD]
      have p1 : (List.range t.1.1.length).map (fun o => (ad (off + o), j_en Y ty ad M (off + o))) = j_w t.1 ty f t.2 := by
        unfold j_w
        refine List.map_congr_left (fun o ho => ?_)
        have ho := List.mem_range.mp ho
        obtain ⟨b1, b2, b3, b4, b5⟩ := a1 o ho
        rw [b5, j_en_eq (ty := ty) (ad' := f) (Y' := t.1) (M' := t.2) (o' := o) b1 b2 b3 (fun k => by rw [b4 k]; exact (a1 _ (hc.2 o k ho)).2.2.2.2)]
      have p2 := ih fs (off + t.1.1.length) Y ad M (by simpa using h1) (fun u hu => h2 u (List.mem_cons_of_mem _ hu)) (fun o ho => by
        obtain ⟨b1, b2, b3, b4, b5⟩ := h3 (t.1.1.length + o) (by omega)
        have hn : ¬ t.1.1.length + o < t.1.1.length := by omega
        have hs : t.1.1.length + o - t.1.1.length = o := by omega
        rw [Nat.add_assoc]
        refine ⟨b1.trans ?_, b2.trans ((if_neg hn).trans (by rw [hs])), b3.trans (funext (fun k => (if_neg hn).trans (by rw [hs]))), fun k => (b4 k).trans ((if_neg hn).trans (by rw [hs])), b5.trans ((if_neg hn).trans (by rw [hs]))⟩
        show (t.1.1 ++ yt_kd T).getD (t.1.1.length + o) 999 = _
        rw [List.getD_eq_getElem?_getD, List.getElem?_append_right (by omega), hs, ← List.getD_eq_getElem?_getD])
      rw [hsz, List.range_add, List.map_append, List.map_map, p1]
      show _ = j_w t.1 ty f t.2 ++ wt_f ty T fs
      rw [← p2]
      congr 1
      refine List.map_congr_left (fun o _ => ?_)
      show (ad (off + (t.1.1.length + o)), j_en Y ty ad M (off + (t.1.1.length + o))) = _
      rw [← Nat.add_assoc]
/-- the place of a root's k-th part -/
def yt_of : List (JY × JM) → Nat → Nat → Nat
  | [], _, _ => 0
  | _ :: _, b, 0 => b
  | t :: T, b, k + 1 => yt_of T (b + t.1.1.length) k
def yt_tree (c : Nat) (T : List (JY × JM)) : JY := (c :: yt_kd T, fun o k => if o = 0 then yt_of T 1 k else yt_rf T 1 (o - 1) k, fun o => if o = 0 then 0 else yt_ln T (o - 1))
def mt_tree (M0 : Nat → Int32) (T : List (JY × JM)) : JM := fun o k => if o = 0 then M0 k else mt_f T (o - 1) k
def at_tree (a : Nat) (T : List (JY × JM)) (fs : List (Nat → Nat)) : Nat → Nat := fun o => if o = 0 then a else at_f T fs (o - 1)
theorem wt_tree {ty : Nat → ClassId} {c a : Nat} {T : List (JY × JM)} {fs : List (Nat → Nat)} {M0 : Nat → Int32} (h1 : T.length = fs.length) (h2 : ∀ t ∈ T, yt_cl t.1) :
    j_w (yt_tree c T) ty (at_tree a T fs) (mt_tree M0 T) = (a, j_en (yt_tree c T) ty (at_tree a T fs) (mt_tree M0 T) 0) :: wt_f ty T fs := by
  have e := wt_eq (ty := ty) T fs 1 (yt_tree c T) (at_tree a T fs) (mt_tree M0 T) h1 h2 (fun o ho => by
    have h0 : ¬ 1 + o = 0 := by omega
    have hs : 1 + o - 1 = o := by omega
    refine ⟨?_, (if_neg h0).trans (by rw [hs]), funext (fun k => (if_neg h0).trans (by rw [hs])), fun k => (if_neg h0).trans (by rw [hs]), (if_neg h0).trans (by rw [hs])⟩
    show (c :: yt_kd T).getD (1 + o) 999 = _
    rw [Nat.add_comm, List.getD_cons_succ])
  rw [← e]
  unfold j_w
  show (List.range (yt_sz T + 1)).map _ = _
  rw [List.range_succ_eq_map, List.map_cons, List.map_map]
  congr 1
  refine List.map_congr_left (fun o _ => ?_)
  show (at_tree a T fs (o + 1), j_en (yt_tree c T) ty (at_tree a T fs) (mt_tree M0 T) (o + 1)) = _
  rw [Nat.add_comm o 1]
theorem yt_rf_lt {k : Nat} : ∀ (T : List (JY × JM)) (b o : Nat), (∀ t ∈ T, yt_cl t.1) → o < yt_sz T → yt_rf T b o k < b + yt_sz T := by
  intro T
  induction T with
  | nil => intro b o _ h; exact absurd h (Nat.not_lt_zero _)
  | cons t T ih =>
    intro b o h2 h
    have hsz := yt_sz_cons t T
    unfold yt_rf
    by_cases c : o < t.1.1.length
    · rw [if_pos c]
      have := (h2 t List.mem_cons_self).2 o k c
      omega
    · rw [if_neg c]
      have := ih (b + t.1.1.length) (o - t.1.1.length) (fun u hu => h2 u (List.mem_cons_of_mem _ hu)) (by omega)
      omega
theorem yt_of_lt : ∀ (T : List (JY × JM)) (b k : Nat), (∀ t ∈ T, yt_cl t.1) → 0 < b → yt_of T b k < b + yt_sz T := by
  intro T
  induction T with
  | nil => intro b k _ h; exact Nat.lt_of_lt_of_le h (Nat.le_add_right _ _)
  | cons t T ih =>
    intro b k h2 h
    have hsz := yt_sz_cons t T
    have h0 := (h2 t List.mem_cons_self).1
    cases k with
    | zero => show b < _; omega
    | succ k =>
      show yt_of T (b + t.1.1.length) k < _
      have := ih (b + t.1.1.length) k (fun u hu => h2 u (List.mem_cons_of_mem _ hu)) (by omega)
      omega
theorem yt_tree_cl {c : Nat} {T : List (JY × JM)} (h2 : ∀ t ∈ T, yt_cl t.1) : yt_cl (yt_tree c T) := by
  have hl : (yt_tree c T).1.length = 1 + yt_sz T := by
    show (yt_kd T).length + 1 = _
    exact Nat.add_comm _ _
  refine ⟨by omega, fun o k ho => ?_⟩
  rw [hl] at ho ⊢
  by_cases h0 : o = 0
  · subst h0
    exact yt_of_lt T 1 k h2 (by decide)
  · show (if o = 0 then yt_of T 1 k else yt_rf T 1 (o - 1) k) < _
    rw [if_neg h0]
    exact yt_rf_lt T 1 (o - 1) h2 (by omega)
theorem yt_L_cl {n : Nat} : yt_cl (yt_L n) := ⟨by show 0 < 2; decide, fun _ _ _ => by show 1 < 2; decide⟩

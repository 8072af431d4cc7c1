/-! ===== pure: Table ===== -/
theorem nI_mul (a b : Nat) : nI a * nI b = nI (a * b) := (Int32.ofNat_mul a b).symm
def TbAt (Y : JY) (o cap : Nat) : Prop := j_rf Y o 0 = o + 1 ∧ j_ln Y (o + 1) = cap ∧ cap < 1000
def t_at (rs : List (List Int32)) (i j : Nat) : Int32 := (((rs[i]?).getD [])[j]?).getD (-1)
def t_put (rs : List (List Int32)) (i j : Nat) (v : Int32) : List (List Int32) := rs.set i (((rs[i]?).getD []).set j v)
def TB (M : JM) (o cap c : Nat) (rs : List (List Int32)) : Prop := M o 1 = nI c ∧ M o 2 = nI rs.length ∧ rs.length * c ≤ cap ∧ (∀ i, i < rs.length → ∀ j, j < c → t_at rs i j = M (o + 1) (i * c + j)) ∧ (∀ r ∈ rs, r.length = c)
theorem TB.frame {lo hi : Nat} {M M' : JM} {o cap c : Nat} {rs : List (List Int32)} (h : TB M o cap c rs) (hf : JFr lo hi M M') (hd : o + 2 ≤ lo ∨ hi ≤ o) : TB M' o cap c rs := by
  obtain ⟨h1, h2, h3, h4, h5⟩ := h
  refine ⟨?_, ?_, h3, fun i hi j hj => ?_, h5⟩
  · rw [hf o (by omega)]; exact h1
  · rw [hf o (by omega)]; exact h2
  · rw [hf (o + 1) (by omega)]; exact h4 i hi j hj
theorem t_ix {c i j n : Nat} (hi : i < n) (hj : j < c) : i * c + j < n * c := by
  have h := Nat.mul_le_mul_right c (show i + 1 ≤ n from hi)
  rw [Nat.succ_mul] at h
  omega
theorem t_inj {c i j i' j' : Nat} (hj : j < c) (hj' : j' < c) (h : i * c + j = i' * c + j') : i = i' ∧ j = j' := by
  rcases Nat.lt_trichotomy i i' with q | q | q
  · have := t_ix q hj
    omega
  · subst q
    exact ⟨rfl, by omega⟩
  · have := t_ix q hj'
    omega
theorem t_at_put {rs : List (List Int32)} {i j a b : Nat} {v : Int32} {c : Nat} (hi : i < rs.length) (hj : j < c) (hl : ∀ r ∈ rs, r.length = c) : t_at (t_put rs i j v) a b = if a = i ∧ b = j then v else t_at rs a b := by
  have hc : (rs[i]).length = c := hl _ (List.getElem_mem hi)
  unfold t_at t_put
  rw [List.getElem?_eq_getElem hi]
  by_cases ha : a = i
  · subst ha
    rw [List.getElem?_set_self hi, List.getElem?_eq_getElem hi]
    by_cases hb : b = j
    · subst hb
      rw [if_pos ⟨rfl, rfl⟩]
      show ((rs[a].set b v)[b]?).getD (-1) = v
      rw [List.getElem?_set_self (by omega)]
      rfl
    · rw [if_neg (fun q => hb q.2)]
      show ((rs[a].set j v)[b]?).getD (-1) = _
      rw [List.getElem?_set_ne (Ne.symm hb)]
      rfl
  · rw [if_neg (fun q => ha q.1), List.getElem?_set_ne (Ne.symm ha)]
section TBS
variable {Y : JY} {M : JM} {o cap c : Nat} {rs : List (List Int32)}
theorem p_rows (h : TB M o cap c rs) : s_X8_rows Y M o = nI rs.length := h.2.1
theorem TB.lens (h : TB M o cap c rs) (hc : 0 < c) : rs.length ≤ cap := Nat.le_trans (Nat.le_mul_of_pos_right _ hc) h.2.2.1
theorem p_hasRow (hy : TbAt Y o cap) (hc : 0 < c) (h : TB M o cap c rs) (i : Int32) : s_X8_hasRow Y M o i = if ¬ i < 0 ∧ i.toNatClampNeg < rs.length then 1 else 0 := by
  have := h.lens hc
  have := hy.2.2
  unfold s_X8_hasRow
  rw [h.2.1]
  by_cases n : i < 0
  · rw [if_pos (Or.inl n), if_neg (fun q => q.1 n)]
  · obtain ⟨j, hj, rfl⟩ := nI_of n
    rw [nI_clamp hj]
    by_cases q : j < rs.length
    · rw [if_neg (fun c => c.elim n (fun c => absurd c (nI_ge q (by omega)))), if_pos ⟨n, q⟩]
    · rw [if_pos (Or.inr (nI_le (by omega) hj)), if_neg (fun c => q c.2)]
theorem p_tat (hy : TbAt Y o cap) (hc : 0 < c) (hc9 : c < 1000) (h : TB M o cap c rs) {i j : Nat} (hi : i < 2 ^ 31) (hj : j < 2 ^ 31) : s_X8_at Y M o (nI i) (nI j) = t_at rs i j := by
  have h9 := h.lens hc
  obtain ⟨y1, y2, y3⟩ := hy
  obtain ⟨h1, h2, h3, h4, h5⟩ := h
  unfold s_X8_at
  dsimp only [lt_]
  rw [y1, y2, h1, h2, nI_ofNat]
  by_cases q1 : i < rs.length
  · by_cases q2 : j < c
    · have e1 : ¬ (nI i < 0 ∨ nI rs.length ≤ nI i ∨ nI j < 0 ∨ nI c ≤ nI j) := by
        rintro (a | a | a | a)
        · exact nI_pos hi a
        · exact nI_ge q1 (by omega) a
        · exact nI_pos hj a
        · exact nI_ge q2 (by omega) a
      have hx := t_ix q1 q2
      rw [if_neg e1, nI_mul, nI_add]
      have e2 : ¬ ((1 : Int32) = 0 ∨ nI (i * c + j) < 0 ∨ nI cap ≤ nI (i * c + j)) := by
        rintro (a | a | a)
        · exact absurd a (by decide)
        · exact nI_pos (by omega) a
        · exact nI_ge (by omega) (by omega) a
      rw [if_neg e2, nI_clamp (by omega)]
      exact (h4 i q1 j q2).symm
    · have e1 : (nI i < 0 ∨ nI rs.length ≤ nI i ∨ nI j < 0 ∨ nI c ≤ nI j) := Or.inr (Or.inr (Or.inr (nI_le (by omega) hj)))
      rw [if_pos e1, if_pos (Or.inl rfl)]
      unfold t_at
      rw [List.getElem?_eq_getElem q1]
      show _ = ((rs[i])[j]?).getD (-1)
      have := h5 _ (List.getElem_mem q1)
      rw [List.getElem?_eq_none (by omega)]
      rfl
  · have e1 : (nI i < 0 ∨ nI rs.length ≤ nI i ∨ nI j < 0 ∨ nI c ≤ nI j) := Or.inr (Or.inl (nI_le (by omega) hi))
    rw [if_pos e1, if_pos (Or.inl rfl)]
    unfold t_at
    rw [List.getElem?_eq_none (show rs.length ≤ i by omega)]
    rfl
theorem p_tat_neg {i j : Int32} (hi : i < 0) : s_X8_at Y M o i j = -1 := by
  unfold s_X8_at
  dsimp only [lt_]
  rw [if_pos (Or.inl hi), if_pos (Or.inl rfl)]
theorem p_tput (hy : TbAt Y o cap) (hc9 : c < 1000) (h : TB M o cap c rs) {i j : Nat} (q1 : i < rs.length) (q2 : j < c) (v : Int32) : s_X8_put Y M o (nI i) (nI j) v = j_up M (o + 1) (i * c + j) v := by
  have h9 := h.lens (by omega)
  obtain ⟨y1, y2, y3⟩ := hy
  obtain ⟨h1, h2, h3, h4, h5⟩ := h
  unfold s_X8_put
  dsimp only [lt_]
  rw [y1, y2, h1, h2, nI_ofNat]
  have e1 : ¬ (nI i < 0 ∨ nI rs.length ≤ nI i ∨ nI j < 0 ∨ nI c ≤ nI j) := by
    rintro (a | a | a | a)
    · exact nI_pos (by omega) a
    · exact nI_ge q1 (by omega) a
    · exact nI_pos (by omega) a
    · exact nI_ge q2 (by omega) a
  have hx := t_ix q1 q2
  rw [if_neg e1, nI_mul, nI_add]
  have e2 : ¬ ((1 : Int32) = 0 ∨ nI (i * c + j) < 0 ∨ nI cap ≤ nI (i * c + j)) := by
    rintro (a | a | a)
    · exact absurd a (by decide)
    · exact nI_pos (by omega) a
    · exact nI_ge (by omega) (by omega) a
  rw [if_neg e2, nI_clamp (by omega)]
theorem p_tput_TB (hy : TbAt Y o cap) (hc9 : c < 1000) (h : TB M o cap c rs) {i j : Nat} (q1 : i < rs.length) (q2 : j < c) (v : Int32) : TB (s_X8_put Y M o (nI i) (nI j) v) o cap c (t_put rs i j v) := by
  rw [p_tput hy hc9 h q1 q2]
  obtain ⟨h1, h2, h3, h4, h5⟩ := h
  have hl : (t_put rs i j v).length = rs.length := by unfold t_put; rw [List.length_set]
  refine ⟨?_, ?_, by rw [hl]; exact h3, fun a ha b hb => ?_, fun r hr => ?_⟩
  · rw [j_up_o (by omega)]; exact h1
  · rw [j_up_o (by omega), hl]; exact h2
  · rw [hl] at ha
    rw [t_at_put q1 q2 h5]
    by_cases e : a = i ∧ b = j
    · obtain ⟨rfl, rfl⟩ := e
      rw [if_pos ⟨rfl, rfl⟩, j_up_s]
    · rw [if_neg e, j_up_k (fun e2 => e (t_inj hb q2 e2))]
      exact h4 a ha b hb
  · unfold t_put at hr
    rcases List.mem_or_eq_of_mem_set hr with hr | hr
    · exact h5 r hr
    · rw [hr, List.length_set, List.getElem?_eq_getElem q1]
      exact h5 _ (List.getElem_mem q1)
theorem p_tput_fr (hy : TbAt Y o cap) (hc9 : c < 1000) (h : TB M o cap c rs) {i j : Nat} (q1 : i < rs.length) (q2 : j < c) (v : Int32) : JFr o (o + 2) M (s_X8_put Y M o (nI i) (nI j) v) := by
  rw [p_tput hy hc9 h q1 q2]
  exact JFr.up.mono (by omega) (by omega)
theorem p_tclear (h : M o 1 = nI c) : TB (s_X8_clear Y M o) o cap c [] := by
  have e : s_X8_clear Y M o = j_up M o 2 0 := rfl
  rw [e]
  refine ⟨?_, by rw [j_up_s]; rfl, by simp, fun i hi => absurd hi (Nat.not_lt_zero _), fun r hr => absurd hr List.not_mem_nil⟩
  rw [j_up_k (by decide)]
  exact h
theorem p_tclear_fr : JFr o (o + 2) M (s_X8_clear Y M o) := JFr.up.mono (Nat.le_refl _) (by omega)
theorem t_put_last {r : List Int32} {j : Nat} {v : Int32} : t_put (rs ++ [r]) rs.length j v = rs ++ [r.set j v] := by
  unfold t_put
  rw [List.getElem?_append_right (Nat.le_refl _), Nat.sub_self, List.set_append_right _ _ (Nat.le_refl _), Nat.sub_self]
  rfl
theorem p_addRow_loop (hy : TbAt Y o cap) (hc9 : c < 1000) : ∀ (k i n : Nat) (M : JM) (r : List Int32), c = i + k → k < n → r.length = c → (∀ t, t < i → r[t]? = some (-1)) → TB M o cap c (rs ++ [r]) →
      ∃ M', lp_X8_addRow_1 Y o (nI rs.length) n (nI i) M = some (nI rs.length, M') ∧ JFr o (o + 2) M M' ∧ TB M' o cap c (rs ++ [List.replicate c (-1)]) := by
  intro k
  induction k with
  | zero =>
    intro i n M r hi hn hr h1 h
    obtain ⟨n, rfl⟩ : ∃ z, n = z + 1 := ⟨n - 1, by omega⟩
    refine ⟨M, ?_, JFr.refl, ?_⟩
    · unfold lp_X8_addRow_1
      rw [h.1, if_pos (nI_le (by omega) (by omega))]
    · have e : r = List.replicate c (-1) := by
        apply List.ext_getElem?
        intro t
        by_cases ht : t < c
        · rw [h1 t (by omega), List.getElem?_replicate_of_lt ht]
        · rw [List.getElem?_eq_none (by omega), List.getElem?_eq_none (by simp; omega)]
      rw [← e]
      exact h
  | succ k ih =>
    intro i n M r hi hn hr h1 h
    obtain ⟨n, rfl⟩ : ∃ z, n = z + 1 := ⟨n - 1, by omega⟩
    have hq : rs.length < (rs ++ [r]).length := by simp
    have hi2 : i < c := by omega
    have h2 := p_tput_TB hy hc9 h hq hi2 (-1)
    rw [t_put_last] at h2
    obtain ⟨M', e1, e2, e3⟩ := ih (i + 1) n _ _ (by omega) (by omega) (by rw [List.length_set]; exact hr) (fun t ht => by
      by_cases e : t = i
      · subst e
        rw [List.getElem?_set_self (by omega)]
      · rw [List.getElem?_set_ne (Ne.symm e)]
        exact h1 t (by omega)) h2
    refine ⟨M', ?_, (p_tput_fr hy hc9 h hq hi2 _).trans e2, e3⟩
    unfold lp_X8_addRow_1
    rw [h.1, if_neg (nI_ge (by omega) (by omega))]
    dsimp only [lt_]
    rw [nI_1]
    exact e1
theorem p_addRow (hy : TbAt Y o cap) (hc9 : c < 1000) (h : TB M o cap c rs) (hcap : (rs.length + 1) * c ≤ cap) :
    ∃ M', s_X8_addRow Y M o = some (nI rs.length, M') ∧ JFr o (o + 2) M M' ∧ TB M' o cap c (rs ++ [List.replicate c (-1)]) := by
  obtain ⟨h1, h2, h3, h4, h5⟩ := h
  have hr : TB (j_up M o 2 (nI (rs.length + 1))) o cap c (rs ++ [(List.range c).map (fun j => M (o + 1) (rs.length * c + j))]) := by
    refine ⟨?_, ?_, by simpa using hcap, fun i hi j hj => ?_, fun r hr => ?_⟩
    · rw [j_up_k (by decide)]; exact h1
    · rw [j_up_s]; simp
    · rw [j_up_o (by omega)]
      by_cases e : i < rs.length
      · rw [← h4 i e j hj]
        unfold t_at
        rw [List.getElem?_append_left e]
      · have e2 : i = rs.length := by simp at hi; omega
        subst e2
        unfold t_at
        rw [List.getElem?_append_right (Nat.le_refl _), Nat.sub_self]
        show (((List.range c).map (fun j => M (o + 1) (rs.length * c + j)))[j]?).getD (-1) = _
        rw [List.getElem?_map, List.getElem?_range hj]
        rfl
    · rcases List.mem_append.mp hr with hr | hr
      · exact h5 r hr
      · rw [List.mem_singleton.mp hr]; simp
  obtain ⟨M', e1, e2, e3⟩ := p_addRow_loop hy hc9 c 0 j_fuel _ _ (by omega) (j_fuel_gt (by omega)) (by simp) (fun t ht => absurd ht (Nat.not_lt_zero _)) hr
  refine ⟨M', ?_, (JFr.up.mono (Nat.le_refl _) (by omega)).trans e2, e3⟩
  unfold s_X8_addRow
  dsimp only [lt_]
  rw [h2, nI_1]
  rw [nI_0] at e1
  rw [e1]
  rfl
theorem p_addPair (hy : TbAt Y o cap) (h : TB M o cap 2 rs) (hcap : (rs.length + 1) * 2 ≤ cap) (a b : Int32) :
    ∃ M', s_X8_addPair Y M o a b = some M' ∧ JFr o (o + 2) M M' ∧ TB M' o cap 2 (rs ++ [[a, b]]) := by
  obtain ⟨M', e1, e2, e3⟩ := p_addRow hy (by decide) h hcap
  have hq : ∀ r : List Int32, rs.length < (rs ++ [r]).length := fun r => by simp
  have e4 := p_tput_TB hy (by decide) e3 (hq _) (show 0 < 2 by decide) a
  rw [t_put_last] at e4
  have e5 := p_tput_TB hy (by decide) e4 (hq _) (show 1 < 2 by decide) b
  rw [t_put_last] at e5
  refine ⟨_, ?_, (e2.trans (p_tput_fr hy (by decide) e3 (hq _) (show 0 < 2 by decide) a)).trans (p_tput_fr hy (by decide) e4 (hq _) (show 1 < 2 by decide) b), e5⟩
  unfold s_X8_addPair
  rw [e1]
  rfl
end TBS

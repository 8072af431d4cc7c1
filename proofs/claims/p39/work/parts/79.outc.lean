/-! ===== pure: what is true of the hunks that were applied without fuzz ===== -/
theorem q_ff_near {ts os : List Int32} {rp b e : Nat} {ex : Int} : ∀ (d k : Nat) (p : Int), q_ff ts os rp b e ex d k = some p → ex - ((k : Int) + (d : Int)) < p ∧ p < ex + ((k : Int) + (d : Int)) := by
  intro d
  induction d with
  | zero => intro k p h; exact absurd h (by simp [q_ff])
  | succ d ih =>
    intro k p h
    unfold q_ff at h
    by_cases q1 : q_fits ts os rp (ex + (k : Int)) b e
    · rw [if_pos q1] at h
      have := Option.some.inj h
      omega
    · rw [if_neg q1] at h
      by_cases q2 : q_fits ts os rp (ex - (k : Int)) b e
      · rw [if_pos q2] at h
        have := Option.some.inj h
        omega
      · rw [if_neg q2] at h
        have := ih (k + 1) p h
        omega
theorem q_try0 {ts os : List Int32} {h : HK} {rv : Bool} {rp : Nat} {sf : Int} {f : Nat} {p : Int} (e : q_try ts os h rv rp sf (0 + 1) 0 = some (f, p)) : f = 0 ∧ q_fits ts os rp p (h_ob h rv 0) (h_oe h rv 0) ∧ (h_ob h rv 0 : Int) + sf - 11 < p ∧ p < (h_ob h rv 0 : Int) + sf + 11 := by
  obtain ⟨a1, a2, a3⟩ := q_try_ok (0 + 1) 0 f p e
  have hf : f = 0 := by omega
  subst hf
  unfold q_try at e
  cases hq : q_ff ts os rp (h_ob h rv 0) (h_oe h rv 0) ((h_ob h rv 0 : Int) + sf) 11 0 with
  | none =>
    rw [hq] at e
    exact absurd e (by simp [q_try])
  | some p' =>
    rw [hq] at e
    have e2 := congrArg Prod.snd (Option.some.inj e)
    dsimp only at e2
    rw [e2] at hq
    have := q_ff_near 11 0 p hq
    exact ⟨rfl, a1, by omega, by omega⟩
theorem h_ob0 {h : HK} : h_ob h false 0 = h.1 := by
  unfold h_ob
  rw [Nat.zero_min, Nat.add_zero]
  rfl
theorem h_oe0 {h : HK} : h_oe h false 0 = h.1 + h.2.1 := by
  unfold h_oe
  rw [Nat.zero_min, Nat.sub_zero]
  rfl
theorem h_ob1 {h : HK} : h_ob h true 0 = h.2.2.1 := by
  unfold h_ob
  rw [Nat.zero_min, Nat.add_zero]
  rfl
theorem h_oe1 {h : HK} : h_oe h true 0 = h.2.2.1 + h.2.2.2.1 := by
  unfold h_oe
  rw [Nat.zero_min, Nat.sub_zero]
  rfl
theorem q_att_pre {ts os ns : List Int32} {rv : Bool} {fz : Nat} : ∀ (hs : List HK) (st : AS), ∃ R, (q_att ts os ns rv fz hs st).2.2.2 = st.2.2.2 ++ R := by
  intro hs
  induction hs with
  | nil => intro st; exact ⟨[], by rw [List.append_nil]; rfl⟩
  | cons h hs ih =>
    intro st
    obtain ⟨R, e⟩ := ih (q_as ts os ns rv fz h st)
    have e2 : ∃ r, (q_as ts os ns rv fz h st).2.2.2 = st.2.2.2 ++ [r] := by
      unfold q_as
      split
      · exact ⟨_, rfl⟩
      · exact ⟨_, rfl⟩
    obtain ⟨r, e2⟩ := e2
    refine ⟨[r] ++ R, ?_⟩
    show (q_att ts os ns rv fz hs (q_as ts os ns rv fz h st)).2.2.2 = _
    rw [e, e2, List.append_assoc]
theorem k_many_app (A B : List (List Int32)) : k_many (A ++ B) = k_many A + k_many B := by
  induction A with
  | nil => exact (Nat.zero_add _).symm
  | cons r A ih =>
    show (if (r[0]?).getD (-1) = (-1 : Int32) then 0 else 1) + k_many (A ++ B) = (if (r[0]?).getD (-1) = (-1 : Int32) then 0 else 1) + k_many A + k_many B
    rw [ih, Nat.add_assoc]
theorem t_at_pre {A B : List (List Int32)} {r : List Int32} {j : Nat} : t_at ((A ++ [r]) ++ B) A.length j = (r[j]?).getD (-1) := by
  unfold t_at
  rw [List.append_assoc, List.getElem?_append_right (Nat.le_refl _), Nat.sub_self]
  rfl
/-- one step: rejected, or applied as the document says -/
theorem q_step {ts xs ys : List Int32} {n m : Nat} {h : HK} {st : AS} (hv : HV n m h) (hn : n = xs.length) (hm : m = ys.length) (h1 : st.1 ≤ ts.length) :
    (q_as ts xs ys false 0 h st = (st.1, st.2.1, st.2.2.1, st.2.2.2 ++ [[-1, -1]])) ∨
    ∃ p : Nat, st.1 ≤ p ∧ p + h.2.1 ≤ ts.length ∧ (∀ k, k < h.2.1 → (ts[p + k]?).getD (-1) = (xs[h.1 + k]?).getD (-1)) ∧ ((h.1 : Int) + st.2.1 - 11 < (p : Int) ∧ (p : Int) < (h.1 : Int) + st.2.1 + 11) ∧
      (q_as ts xs ys false 0 h st).1 = p + h.2.1 ∧ ((q_as ts xs ys false 0 h st).2.2.1.length + st.1 = st.2.2.1.length + p + h.2.2.2.1) ∧ (q_as ts xs ys false 0 h st).2.2.2 = st.2.2.2 ++ [[nI p, nI 0]] := by
  unfold q_as
  cases hq : q_try ts xs h false st.1 st.2.1 (0 + 1) 0 with
  | none => exact Or.inl rfl
  | some fp =>
    obtain ⟨f, p⟩ := fp
    obtain ⟨rfl, ⟨b1, b2, b3⟩, b4, b5⟩ := q_try0 hq
    rw [h_ob0, h_oe0] at b2 b3
    rw [h_ob0] at b4 b5
    obtain ⟨q, rfl⟩ : ∃ q : Nat, p = (q : Int) := ⟨p.toNat, by omega⟩
    have hd : h.1 + h.2.1 - h.1 = h.2.1 := by omega
    rw [Int.toNat_natCast, hd] at b3
    refine Or.inr ⟨q, by omega, by omega, fun k hk => ?_, ⟨b4, b5⟩, ?_, ?_, ?_⟩
    · have e1 := l_seg_at (ys := ts) (b := q) (e := q + h.2.1) (i := k) (by omega)
      have e2 := l_seg_at (ys := xs) (b := h.1) (e := h.1 + h.2.1) (i := k) (by omega)
      rw [← e1, ← e2, b3]
    · dsimp only
      rw [h_ob0, h_oe0, hd, Int.toNat_natCast]
    · dsimp only
      rw [Int.toNat_natCast, List.length_append, List.length_append, l_seg_len (by omega), Bool.not_false, h_ob1, h_oe1, l_seg_len (by rw [← hm]; exact hv.2.1)]
      omega
    · dsimp only
      rw [nZ_n]

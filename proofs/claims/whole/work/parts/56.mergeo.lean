/-! ===== pure: merges; the class's other calls ===== -/
theorem k_tb_congr {f g : Nat → Int32} : ∀ (cs : List CK) (r : Nat), (∀ t, r ≤ t → f t = g t) → k_tb f r cs = k_tb g r cs := by
  intro cs
  induction cs with
  | nil => intro r _; rfl
  | cons c cs ih =>
    intro r h
    show k_r8 c (f r) :: k_tb f (r + 1) cs = k_r8 c (g r) :: k_tb g (r + 1) cs
    rw [h r (Nat.le_refl _), ih (r + 1) (fun t ht => h t (by omega))]
theorem k_tb_put {cf : Nat → Int32} {v : Int32} : ∀ (cs : List CK) (r i : Nat), i < cs.length → t_put (k_tb cf r cs) i 7 v = k_tb (f_up cf (r + i) v) r cs := by
  intro cs
  induction cs with
  | nil => intro r i h; exact absurd h (Nat.not_lt_zero _)
  | cons c cs ih =>
    intro r i h
    cases i with
    | zero =>
      show k_r8 c v :: k_tb cf (r + 1) cs = k_r8 c (f_up cf r v r) :: k_tb (f_up cf r v) (r + 1) cs
      rw [f_up_s, k_tb_congr (f := f_up cf r v) (g := cf) cs (r + 1) (fun t ht => f_up_n (by omega))]
    | succ i =>
      have := ih (r + 1) i (by simpa using h)
      show k_r8 c (cf r) :: t_put (k_tb cf (r + 1) cs) i 7 v = k_r8 c (f_up cf (r + (i + 1)) v r) :: k_tb (f_up cf (r + (i + 1)) v) (r + 1) cs
      rw [this, f_up_n (by omega), show r + 1 + i = r + (i + 1) by omega]
theorem k_cr_mem : ∀ (cs : List CK) (r x : Nat), x ∈ k_cr r cs → ∃ i c, x = r + i ∧ cs[i]? = some c ∧ c.1 = 4 := by
  intro cs
  induction cs with
  | nil => intro r x h; exact absurd h List.not_mem_nil
  | cons c cs ih =>
    intro r x h
    rw [k_cr_c] at h
    have tl : x ∈ k_cr (r + 1) cs → ∃ i c', x = r + i ∧ (c :: cs)[i]? = some c' ∧ c'.1 = 4 := fun h => by
      obtain ⟨i, c', h1, h2, h3⟩ := ih (r + 1) x h
      exact ⟨i + 1, c', by omega, by simpa using h2, h3⟩
    by_cases q : c.1 = 4
    · rw [if_pos q] at h
      rcases List.mem_cons.mp h with h | h
      · exact ⟨0, c, by omega, rfl, q⟩
      · exact tl h
    · rw [if_neg q] at h
      exact tl h
theorem k_cr_pw : ∀ (cs : List CK) (r : Nat), List.Pairwise (fun a b : Nat => a < b) (k_cr r cs) := by
  intro cs
  induction cs with
  | nil => intro r; exact List.Pairwise.nil
  | cons c cs ih =>
    intro r
    rw [k_cr_c]
    split
    · refine List.Pairwise.cons (fun x hx => ?_) (ih (r + 1))
      obtain ⟨i, c', h1, -⟩ := k_cr_mem cs (r + 1) x hx
      omega
    · exact ih (r + 1)
theorem k_cr_inj {cs : List CK} {a b x : Nat} (ha : (k_cr 0 cs)[a]? = some x) (hb : (k_cr 0 cs)[b]? = some x) : a = b := by
  have key : ∀ (L : List Nat), List.Pairwise (fun a b : Nat => a < b) L → ∀ a b : Nat, a < b → L[a]? = some x → L[b]? = some x → False := by
    intro L
    induction L with
    | nil => intro _ a b _ h; exact absurd h (by simp)
    | cons y L ih =>
      intro hp a b hab h1 h2
      have hp' := List.pairwise_cons.mp hp
      cases b with
      | zero => exact absurd hab (Nat.not_lt_zero _)
      | succ b =>
        have h3 : L[b]? = some x := by simpa using h2
        cases a with
        | zero =>
          have h4 : y = x := by simpa using h1
          have := hp'.1 x (List.mem_of_getElem? h3)
          omega
        | succ a => exact ih hp'.2 a b (by omega) (by simpa using h1) h3
  rcases Nat.lt_trichotomy a b with h | h | h
  · exact absurd (key _ (k_cr_pw cs 0) a b h ha hb) id
  · exact h
  · exact absurd (key _ (k_cr_pw cs 0) b a h hb ha) id
def k_op (cf : Nat → Int32) : List Nat → Nat
  | [] => 0
  | r :: R => (if cf r = -1 then 1 else 0) + k_op cf R
theorem k_op_le {cf : Nat → Int32} : ∀ (R : List Nat), k_op cf R ≤ R.length := by
  intro R
  induction R with
  | nil => exact Nat.le_refl _
  | cons r R ih =>
    unfold k_op
    rw [List.length_cons]
    split <;> omega
section MGO
variable {Y : JY} {M : JM} {o : Nat} {bs ls rs : List Int32} {cs : List CK} {cf : Nat → Int32}
theorem p_openConflicts (hy : MgAt Y o) (hG : MG M o true bs ls rs cs cf) : s_X5_openConflicts Y M o = some (nI (k_op cf (k_cr 0 cs))) := by
  have hy' := hy
  obtain ⟨-, -, -, -, -, ⟨y5, z5⟩, ⟨y6, z6⟩, -⟩ := hy
  obtain ⟨-, -, -, -, hG⟩ := hG
  obtain ⟨-, -, -, hV, hT, hR, -⟩ := hG rfl
  obtain ⟨v1, v2, v3, v4, v5, v6⟩ := hV
  have loop : ∀ (d i n acc : Nat), (k_cr 0 cs).length = i + d → d < n → acc + d ≤ 1000 → lp_X5_openConflicts_1 Y M o n (nI acc) (nI i) = some (nI (acc + k_op cf ((k_cr 0 cs).drop i))) := by
    intro d
    induction d with
    | zero =>
      intro i n acc hi hn ha
      obtain ⟨n, rfl⟩ : ∃ z, n = z + 1 := ⟨n - 1, by omega⟩
      unfold lp_X5_openConflicts_1
      rw [y6, p_size hR, List.length_map, if_pos (nI_le (by omega) (by omega)), List.drop_eq_nil_of_le (by omega)]
      rfl
    | succ d ih =>
      intro i n acc hi hn ha
      obtain ⟨n, rfl⟩ : ∃ z, n = z + 1 := ⟨n - 1, by omega⟩
      have hil : i < (k_cr 0 cs).length := by omega
      have e := List.drop_eq_getElem_cons hil
      obtain ⟨x, hx⟩ : ∃ z, z = (k_cr 0 cs)[i] := ⟨_, rfl⟩
      rw [← hx] at e
      obtain ⟨r, c, h1, h2, h3⟩ := k_cr_mem cs 0 x (by rw [hx]; exact List.getElem_mem hil)
      rw [Nat.zero_add] at h1
      have g : l_at ((k_cr 0 cs).map nI) (nI i) = nI x := by
        rw [l_at_nI (by omega), List.getElem?_map, List.getElem?_eq_getElem hil, ← hx]
        rfl
      have g7 : s_X8_at Y M (o + 29) (nI x) (7 : Int32) = cf x := by
        rw [h1]
        exact p_ck hy' hT h2 (by omega) (show 7 < 8 by decide)
      unfold lp_X5_openConflicts_1
      rw [y5, y6, p_size hR, List.length_map, if_neg (nI_ge (by omega) (by omega)), p_at z6 hR, g, g7, e]
      unfold k_op
      dsimp only [lt_]
      rw [nI_1, nI_1]
      by_cases q : cf x = -1
      · rw [if_pos q, if_pos q, ih (i + 1) n (acc + 1) (by omega) (by omega) (by omega), Nat.add_assoc]
      · rw [if_neg q, if_neg q, ih (i + 1) n acc (by omega) (by omega) (by omega), Nat.zero_add]
  have e := loop (k_cr 0 cs).length 0 j_fuel 0 (by omega) (j_fuel_gt (by omega)) (by omega)
  rw [nI_0, Nat.zero_add] at e
  unfold s_X5_openConflicts
  rw [e]
  rfl
theorem p_choose (hy : MgAt Y o) (hG : MG M o true bs ls rs cs cf) {t x v : Nat} (ht : (k_cr 0 cs)[t]? = some x) (hv5 : v < 5) {c : CK} (hc : cs[x]? = some c) :
    ∃ M', s_X5_choose Y M o (nI t) (nI v) = some (nI (k_out bs ls rs c (nI v)).length, M') ∧ JFr (o + 29) (o + 35) M M' ∧ MG M' o true bs ls rs cs (f_up cf x (nI v)) := by
  have hy' := hy
  obtain ⟨-, -, -, -, -, ⟨y5, z5⟩, ⟨y6, z6⟩, -⟩ := hy
  obtain ⟨m1, ⟨t1, m2, m3⟩, ⟨t2, m4, m5⟩, m6, hG⟩ := hG
  obtain ⟨L1, L2, L3, hV, hT, hR, hL⟩ := hG rfl
  obtain ⟨v1, v2, v3, v4, v5, v6⟩ := hV
  have hil : t < (k_cr 0 cs).length := by
    apply Classical.byContradiction
    intro q
    rw [List.getElem?_eq_none (by omega)] at ht
    exact absurd ht (by simp)
  obtain ⟨r, c', h1, h2, h3⟩ := k_cr_mem cs 0 x (List.mem_of_getElem? ht)
  rw [Nat.zero_add] at h1
  subst h1
  have hcc : c' = c := Option.some.inj (h2.symm.trans hc)
  subst hcc
  have hxl : x < cs.length := by
    apply Classical.byContradiction
    intro q
    rw [List.getElem?_eq_none (by omega)] at hc
    exact absurd hc (by simp)
  have g : l_at ((k_cr 0 cs).map nI) (nI t) = nI x := by
    rw [l_at_nI (by omega), List.getElem?_map, ht]
    rfl
  have p1 := p_tput_TB z5 (by decide) hT (i := x) (j := 7) (by rw [k_tb_len]; exact hxl) (by decide) (nI v)
  have p2 := p_tput_fr z5 (by decide) hT (i := x) (j := 7) (by rw [k_tb_len]; exact hxl) (by decide) (nI v)
  rw [k_tb_put cs 0 x hxl, Nat.zero_add] at p1
  obtain ⟨M1, hM1⟩ : ∃ z, z = s_X8_put Y M (o + 29) (nI x) (nI 7) (nI v) := ⟨_, rfl⟩
  rw [← hM1] at p1 p2
  obtain ⟨M2, a1, a2, a3⟩ := p_writeResult hy' (by omega) v2 (by omega) (L1.frame p2 (by omega)) (L2.frame p2 (by omega)) (L3.frame p2 (by omega)) p1
  have F : JFr (o + 29) (o + 35) M M2 := (p2.mono (by omega) (by omega)).trans (a2.mono (by omega) (by omega))
  have hT2 := p1.frame a2 (by omega)
  have k1 : s_X8_at Y M2 (o + 29) (nI x) (1 : Int32) = nI c'.2.1 := p_ck hy' hT2 hc (by omega) (show 1 < 8 by decide)
  have k2 : s_X8_at Y M2 (o + 29) (nI x) (2 : Int32) = nI c'.2.2.1 := p_ck hy' hT2 hc (by omega) (show 2 < 8 by decide)
  have k3 : s_X8_at Y M2 (o + 29) (nI x) (3 : Int32) = nI c'.2.2.2.1 := p_ck hy' hT2 hc (by omega) (show 3 < 8 by decide)
  have k4 : s_X8_at Y M2 (o + 29) (nI x) (4 : Int32) = nI c'.2.2.2.2.1 := p_ck hy' hT2 hc (by omega) (show 4 < 8 by decide)
  have k5 : s_X8_at Y M2 (o + 29) (nI x) (5 : Int32) = nI c'.2.2.2.2.2.1 := p_ck hy' hT2 hc (by omega) (show 5 < 8 by decide)
  have k6 : s_X8_at Y M2 (o + 29) (nI x) (6 : Int32) = nI c'.2.2.2.2.2.2 := p_ck hy' hT2 hc (by omega) (show 6 < 8 by decide)
  have hcv := v2 c' (List.mem_of_getElem? hc)
  have hch : s_X5_chosenLength Y M2 o (nI x) (nI v) = nI (k_out bs ls rs c' (nI v)).length := by
    unfold s_X5_chosenLength
    rw [y5, k1, k2, k3, k4, k5, k6, nI_sb hcv.2.1.1, nI_sb hcv.2.2.1.1, nI_sb hcv.2.2.2.1]
    dsimp only [lt_]
    unfold k_out
    rw [if_pos h3]
    have e1 := l_seg_len (ys := bs) (b := c'.2.1) hcv.2.1.2
    have e2 := l_seg_len (ys := ls) (b := c'.2.2.2.1) hcv.2.2.1.2
    have e3 := l_seg_len (ys := rs) (b := c'.2.2.2.2.2.1) hcv.2.2.2.2
    rcases (show v = 0 ∨ v = 1 ∨ v = 2 ∨ v = 3 ∨ v = 4 by omega) with q | q | q | q | q
    · subst q
      rw [if_pos nI_0, if_pos nI_0, e2]
    · subst q
      rw [if_neg (by decide), if_pos (by decide), if_neg (by decide), if_pos (by decide), e3]
    · subst q
      rw [if_neg (by decide), if_neg (by decide), if_neg (by decide), if_neg (by decide), if_neg (by decide), if_pos (by decide), List.length_append, e2, e3, nI_add]
    · subst q
      rw [if_neg (by decide), if_neg (by decide), if_neg (by decide), if_neg (by decide), if_neg (by decide), if_neg (by decide), if_pos (by decide), List.length_append, e2, e3, nI_add, Nat.add_comm]
    · subst q
      rw [if_neg (by decide), if_neg (by decide), if_pos (by decide), if_neg (by decide), if_neg (by decide), if_neg (by decide), if_neg (by decide), if_pos (by decide), e1]
  refine ⟨M2, ?_, F, by rw [F o (by omega)]; exact m1, ⟨t1, m2, m3.frame F (by omega)⟩, ⟨t2, m4, m5.frame F (by omega)⟩, hT2.1, fun _ => ⟨L1.frame F (by omega), L2.frame F (by omega), L3.frame F (by omega), ⟨v1, v2, v3, v4, v5, fun r => ?_⟩, hT2, (hR.frame p2 (by omega)).frame a2 (by omega), a3⟩⟩
  · unfold s_X5_choose
    rw [y5, y6, p_at z6 hR, g]
    dsimp only [lt_]
    rw [show nI 7 = (7 : Int32) from rfl] at hM1
    rw [← hM1, a1]
    dsimp only [Option.bind]
    rw [hch]
  · by_cases q : r = x
    · rw [q, f_up_s]
      rcases (show v = 0 ∨ v = 1 ∨ v = 2 ∨ v = 3 ∨ v = 4 by omega) with q | q | q | q | q
      · subst q; exact Or.inr (Or.inl nI_0)
      · subst q; exact Or.inr (Or.inr (Or.inl rfl))
      · subst q; exact Or.inr (Or.inr (Or.inr (Or.inl rfl)))
      · subst q; exact Or.inr (Or.inr (Or.inr (Or.inr (Or.inl rfl))))
      · subst q; exact Or.inr (Or.inr (Or.inr (Or.inr (Or.inr rfl))))
    · rw [f_up_n q]
      exact v6 r
end MGO

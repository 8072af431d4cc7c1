/-! ===== pure: the model's candidates ===== -/
theorem q_most_s {c : Nat → Option Nat} {n : Nat} (d : Nat) : q_most c n (d + 1) = if (c (n - (d + 1))).isSome then max (q_most c n d) (q_bh c (q_chains c n d) (n - (d + 1)) d (n - d) 0 + 1) else q_most c n d := rfl
theorem q_chains_s {c : Nat → Option Nat} {n : Nat} (d : Nat) : q_chains c n (d + 1) = if (c (n - (d + 1))).isSome then f_up (q_chains c n d) (n - (d + 1)) (q_bh c (q_chains c n d) (n - (d + 1)) d (n - d) 0 + 1) else q_chains c n d := rfl
def mxr (h : Nat → Nat) : Nat → Nat → Nat
  | _, 0 => 0
  | k, d + 1 => max (h k) (mxr h (k + 1) d)
theorem mxr_up {h : Nat → Nat} {i v : Nat} : ∀ (d k : Nat), i < k → mxr (f_up h i v) k d = mxr h k d := by
  intro d
  induction d with
  | zero => intro k hk; rfl
  | succ d ih =>
    intro k hk
    unfold mxr
    rw [f_up_n (by omega), ih (k + 1) (by omega)]
theorem mxr_le {h : Nat → Nat} {B : Nat} (hB : ∀ k, h k ≤ B) : ∀ (d k : Nat), mxr h k d ≤ B := by
  intro d
  induction d with
  | zero => intro k; exact Nat.zero_le _
  | succ d ih =>
    intro k
    unfold mxr
    have := hB k
    have := ih (k + 1)
    omega
theorem q_chains_0 {c : Nat → Option Nat} {n : Nat} : ∀ (d k : Nat), d ≤ n → k < n - d → q_chains c n d k = 0 := by
  intro d
  induction d with
  | zero => intro k _ _; rfl
  | succ d ih =>
    intro k hd hk
    unfold q_chains
    split
    · rw [f_up_n (by omega)]
      exact ih k (by omega) (by omega)
    · exact ih k (by omega) (by omega)
theorem q_most_mx {c : Nat → Option Nat} {n : Nat} : ∀ (d : Nat), d ≤ n → q_most c n d = mxr (q_chains c n d) (n - d) d := by
  intro d
  induction d with
  | zero => intro _; rfl
  | succ d ih =>
    intro hd
    have e : n - (d + 1) + 1 = n - d := by omega
    rw [q_most_s, q_chains_s]
    unfold mxr
    split
    · rw [f_up_s, mxr_up d _ (by omega), e, ih (by omega), Nat.max_comm]
    · rw [q_chains_0 d (n - (d + 1)) (by omega) (by omega), e, ih (by omega), Nat.zero_max]
section MCS
variable {Y : JY} {M : JM} {om : Nat} {xs ys : List Int32} {ta tb : Nat}
theorem m_occurs_loop {a : Nat} (hla : j_ln Y a = 24) (hx24 : xs.length ≤ 24) (h1 : RA M a xs) (v : Int32) : ∀ (k b n acc : Nat), xs.length = b + k → k < n → lp_X10_occurs_1 Y (nI xs.length) a M v n (nI acc) (nI b) = some (nI (acc + l_cnt xs v b k)) := by
  intro k
  induction k with
  | zero =>
    intro b n acc hb hn
    obtain ⟨n, rfl⟩ : ∃ z, n = z + 1 := ⟨n - 1, by omega⟩
    unfold lp_X10_occurs_1
    rw [if_pos (nI_le (by omega) (by omega))]
    rfl
  | succ k ih =>
    intro b n acc hb hn
    obtain ⟨n, rfl⟩ : ∃ z, n = z + 1 := ⟨n - 1, by omega⟩
    unfold lp_X10_occurs_1 l_cnt
    rw [if_neg (nI_ge (by omega) (by omega)), hla, if_pos (j_g_nI (by omega) (by omega))]
    simp only [nI_clamp (show b < 2 ^ 31 by omega)]
    rw [h1.get' (by omega)]
    dsimp only [lt_]
    by_cases e : (xs[b]?).getD (-1) = v
    · rw [if_pos e, if_pos e, nI_1, nI_1, ih (b + 1) n (acc + 1) (by omega) (by omega), Nat.add_assoc]
    · rw [if_neg e, if_neg e, show nI acc + 0 = nI acc by rw [← nI_0, nI_add, Nat.add_zero], nI_1, ih (b + 1) n acc (by omega) (by omega), Nat.zero_add]
theorem m_occurs {a : Nat} (hla : j_ln Y a = 24) (hx24 : xs.length ≤ 24) (h1 : RA M a xs) (v : Int32) : s_X10_occurs Y M a (nI xs.length) v = some (nI (l_cnt xs v 0 xs.length)) := by
  have e := m_occurs_loop hla hx24 h1 v xs.length 0 j_fuel 0 (by omega) (j_fuel_gt (by omega))
  rw [nI_0, Nat.zero_add] at e
  unfold s_X10_occurs
  rw [e]
  rfl
/-- mates[i] ends as the place of the one equal line -/
theorem m_cand2 (hy : MdAt Y om) (hla : j_ln Y (om + ta) = 24) (hlb : j_ln Y (om + tb) = 24) (hta : ta ≠ 11 ∧ ta ≠ 0) (htb : tb ≠ 11 ∧ tb ≠ 0) (hx24 : xs.length ≤ 24) (hy24 : ys.length ≤ 24) {i : Nat} (hi : i < xs.length) {t : Nat} (hu : ∀ j, j < ys.length → ((ys[j]?).getD (-1) = (xs[i]?).getD (-1) ↔ j = t)) :
    ∀ (k j n : Nat) (M : JM), ys.length = j + k → k < n → RA M (om + ta) xs → RA M (om + tb) ys → (t < j → M (om + 11) i = nI t) →
      ∃ M', lp_X10_tellCandidates_2 Y (nI ys.length) (om + tb) (nI i) (om + ta) om n (nI j) M = some M' ∧ MF om [11] [] M M' ∧ (∀ a b, a ≠ om + 11 ∨ b ≠ i → M' a b = M a b) ∧ (t < ys.length → M' (om + 11) i = nI t) := by
  have hL := hy (20, 11, 24) (by decide)
  have hL1 : j_rf Y om 20 = om + 11 := hL.1
  have hL2 : j_ln Y (om + 11) = 24 := hL.2
  intro k
  induction k with
  | zero =>
    intro j n M hj hn h1 h2 hm
    obtain ⟨n, rfl⟩ : ∃ z, n = z + 1 := ⟨n - 1, by omega⟩
    refine ⟨M, ?_, MF.refl, fun _ _ _ => rfl, fun q => hm (by omega)⟩
    unfold lp_X10_tellCandidates_2
    rw [if_pos (nI_le (by omega) (by omega))]
  | succ k ih =>
    intro j n M hj hn h1 h2 hm
    obtain ⟨n, rfl⟩ : ∃ z, n = z + 1 := ⟨n - 1, by omega⟩
    obtain ⟨V, hV⟩ : ∃ z, z = (if j = t then nI j else M (om + 11) i) := ⟨_, rfl⟩
    have f1 : MF om [11] [] M (j_up M (om + 11) i V) := MF.ua
    obtain ⟨M', a1, a2, a3, a4⟩ := ih (j + 1) n (j_up M (om + 11) i V) (by omega) (by omega) (h1.eq (f1.arr (by simp; exact hta.1) hta.2)) (h2.eq (f1.arr (by simp; exact htb.1) htb.2)) (fun q => by
      rw [j_up_s, hV]
      by_cases e : j = t
      · rw [if_pos e, e]
      · rw [if_neg e]
        exact hm (by omega))
    refine ⟨M', ?_, f1.trans a2, fun a b q => ?_, a4⟩
    · unfold lp_X10_tellCandidates_2
      rw [if_neg (nI_ge (by omega) (by omega)), hla, hlb, hL1, hL2, if_pos (j_g_nI (by omega) (by omega)), if_pos (j_g_nI (by omega) (by omega)), if_pos (j_g_nI (i := i) (by omega) (by omega))]
      simp only [nI_clamp (show i < 2 ^ 31 by omega), nI_clamp (show j < 2 ^ 31 by omega)]
      rw [h1.get' hi, h2.get' (by omega)]
      have e5 : (if (ys[j]?).getD (-1) = (xs[i]?).getD (-1) then some (nI j) else some (M (om + 11) i)) = some V := by
        rw [hV]
        by_cases e : j = t
        · rw [if_pos ((hu j (by omega)).mpr e), if_pos e]
        · rw [if_neg (fun c => e ((hu j (by omega)).mp c)), if_neg e]
      rw [e5]
      dsimp only [Option.bind, lt_]
      rw [if_pos (j_g_nI (i := i) (by omega) (by omega)), nI_1]
      exact a1
    · rw [a3 a b q]
      by_cases e : a = om + 11
      · subst e
        exact j_up_k (by
          rcases q with q | q
          · exact absurd rfl q
          · exact q)
      · exact congrFun (j_up_o e) b
def CT (M : JM) (om : Nat) (c : Nat → Option Nat) (h : Nat → Nat) (n i : Nat) : Prop := ∀ t, i ≤ t → t < n → M (om + 11) t = oI (c t) ∧ M (om + 12) t = nI (h t)
theorem m_cand3 (hy : MdAt Y om) {c : Nat → Option Nat} {h : Nat → Nat} {n : Nat} (hn : n ≤ 24) (hc9 : ∀ i j, c i = some j → j < 1000) (hh9 : ∀ k, h k ≤ 100) {i : Nat} (hi : i < n) :
    ∀ (d k n' acc : Nat) (M : JM), n = k + d → d < n' → acc ≤ 100 → i < k → CT M om c h n (i + 1) → M (om + 11) i = oI (c i) → M (om + 12) i = nI (acc + 1) →
      ∃ M', lp_X10_tellCandidates_3 Y (nI n) om (nI i) n' (nI k) M = some M' ∧ MF om [12] [] M M' ∧ CT M' om c h n (i + 1) ∧ M' (om + 11) i = oI (c i) ∧ M' (om + 12) i = nI (q_bh c h i d k acc + 1) := by
  have hL := hy (20, 11, 24) (by decide)
  have hL1 : j_rf Y om 20 = om + 11 := hL.1
  have hL2 : j_ln Y (om + 11) = 24 := hL.2
  have hK := hy (21, 12, 24) (by decide)
  have hK1 : j_rf Y om 21 = om + 12 := hK.1
  have hK2 : j_ln Y (om + 12) = 24 := hK.2
  intro d
  induction d with
  | zero =>
    intro k n' acc M hk hn' ha hik hC hm hch
    obtain ⟨n', rfl⟩ : ∃ z, n' = z + 1 := ⟨n' - 1, by omega⟩
    refine ⟨M, ?_, MF.refl, hC, hm, hch⟩
    unfold lp_X10_tellCandidates_3
    rw [if_pos (nI_le (by omega) (by omega))]
  | succ d ih =>
    intro k n' acc M hk hn' ha hik hC hm hch
    obtain ⟨n', rfl⟩ : ∃ z, n' = z + 1 := ⟨n' - 1, by omega⟩
    have hCk := hC k (by omega) (by omega)
    have h9 := hh9 k
    have hiff := o_gt_iff (a := c k) (b := c i) (fun j hj => by have := hc9 k j hj; omega) (fun j hj => by have := hc9 i j hj; omega)
    obtain ⟨acc2, hacc2⟩ : ∃ z, z = (if o_gt (c k) (c i) then max acc (h k) else acc) := ⟨_, rfl⟩
    have hacc3 : acc2 ≤ 100 := by
      rw [hacc2]
      split <;> omega
    have f1 : MF om [12] [] M (j_up M (om + 12) i (nI (acc2 + 1))) := MF.ua
    obtain ⟨M', a1, a2, a3, a4, a5⟩ := ih (k + 1) n' acc2 (j_up M (om + 12) i (nI (acc2 + 1))) (by omega) (by omega) hacc3 (by omega)
      (fun t ht1 ht2 => by
        rw [j_up_k (o := om + 12) (by omega), j_up_o (a := om + 11) (by omega)]
        exact hC t ht1 ht2) (by rw [j_up_o (a := om + 11) (by omega)]; exact hm) j_up_s
    refine ⟨M', ?_, f1.trans a2, a3, a4, ?_⟩
    · unfold lp_X10_tellCandidates_3
      rw [if_neg (nI_ge (by omega) (by omega)), hL1, hL2, hK1, hK2, if_pos (j_g_nI (by omega) (by omega)), if_pos (j_g_nI (i := i) (by omega) (by omega)), if_pos (j_g_nI (i := i) (by omega) (by omega)), if_pos (j_g_nI (i := k) (by omega) (by omega)), if_pos (j_g_nI (i := i) (by omega) (by omega))]
      simp only [nI_clamp (show i < 2 ^ 31 by omega), nI_clamp (show k < 2 ^ 31 by omega)]
      rw [hCk.1, hCk.2, hm, hch, nI_1a, p_most (by omega) (by omega)]
      have e5 : (if oI (c k) ≤ oI (c i) then some (nI (acc + 1)) else some (nI (max (acc + 1) (h k + 1)))) = some (nI (acc2 + 1)) := by
        rw [hacc2]
        cases hg : o_gt (c k) (c i) with
        | false => rw [if_pos (hiff.mpr hg), if_neg (by simp)]
        | true =>
          rw [if_neg (fun q => by rw [hiff.mp q] at hg; cases hg), if_pos rfl]
          congr 2
          omega
      rw [e5]
      dsimp only [Option.bind, lt_]
      rw [if_pos (j_g_nI (i := i) (by omega) (by omega)), nI_1]
      exact a1
    · unfold q_bh
      rw [← hacc2]
      exact a5
theorem m_cand1 (hy : MdAt Y om) (hla : j_ln Y (om + ta) = 24) (hlb : j_ln Y (om + tb) = 24) (hta : ta ≠ 11 ∧ ta ≠ 0 ∧ ta ≠ 12) (htb : tb ≠ 11 ∧ tb ≠ 0 ∧ tb ≠ 12) (hx24 : xs.length ≤ 24) (hy24 : ys.length ≤ 24) :
    ∀ (k n : Nat) (M : JM), k ≤ xs.length → k < n → RA M (om + ta) xs → RA M (om + tb) ys → CT M om (q_cand xs ys) (q_chains (q_cand xs ys) xs.length (xs.length - k)) xs.length k →
      ∃ M', lp_X10_tellCandidates_1 Y om (om + ta) (nI xs.length) (om + tb) (nI ys.length) n (nD 0 k) M = some M' ∧ MF om [11, 12] [] M M' ∧ CT M' om (q_cand xs ys) (q_chains (q_cand xs ys) xs.length xs.length) xs.length 0 := by
  have hL := hy (20, 11, 24) (by decide)
  have hL1 : j_rf Y om 20 = om + 11 := hL.1
  have hL2 : j_ln Y (om + 11) = 24 := hL.2
  have hK := hy (21, 12, 24) (by decide)
  have hK1 : j_rf Y om 21 = om + 12 := hK.1
  have hK2 : j_ln Y (om + 12) = 24 := hK.2
  intro k
  induction k with
  | zero =>
    intro n M hk hn h1 h2 hC
    obtain ⟨n, rfl⟩ : ∃ z, n = z + 1 := ⟨n - 1, by omega⟩
    refine ⟨M, ?_, MF.refl, hC⟩
    unfold lp_X10_tellCandidates_1
    rw [if_pos (show nD 0 0 < 0 by decide)]
  | succ k ih =>
    intro n M hk hn h1 h2 hC
    obtain ⟨n, rfl⟩ : ∃ z, n = z + 1 := ⟨n - 1, by omega⟩
    obtain ⟨D, hD⟩ : ∃ z, z = xs.length - (k + 1) := ⟨_, rfl⟩
    have hD1 : xs.length - k = D + 1 := by omega
    have hD2 : xs.length - (D + 1) = k := by omega
    have hD3 : xs.length - D = k + 1 := by omega
    rw [← hD] at hC
    have hkx : k < xs.length := by omega
    have ed : nD 0 (k + 1) = nI k := by rw [nD_s, Nat.zero_add]
    have ed2 : nI k + -1 = nD 0 k := by unfold nD; rw [Nat.zero_add]
    have hc9 : ∀ i j, q_cand xs ys i = some j → j < 1000 := fun i j hj => by have := q_cand_lt hj; omega
    have hle := q_chains_le (c := q_cand xs ys) (n := xs.length) D
    obtain ⟨N1, hN1⟩ : ∃ z, z = j_up M (om + 11) k (-1) := ⟨_, rfl⟩
    obtain ⟨N2, hN2⟩ : ∃ z, z = j_up N1 (om + 12) k 0 := ⟨_, rfl⟩
    have g1 : MF om [11, 12] [] M N1 := by rw [hN1]; exact MF.ua.mono (by simp) (by simp)
    have g2 : MF om [11, 12] [] N1 N2 := by rw [hN2]; exact MF.ua.mono (by simp) (by simp)
    have g3 := g1.trans g2
    have k1 := h1.eq (g3.arr (t := ta) (by simp; exact ⟨hta.1, hta.2.2⟩) hta.2.1)
    have k2 := h2.eq (g3.arr (t := tb) (by simp; exact ⟨htb.1, htb.2.2⟩) htb.2.1)
    have n11 : ∀ t, t ≠ k → N2 (om + 11) t = M (om + 11) t := fun t ht => by
      rw [hN2, j_up_o (a := om + 11) (by omega), hN1, j_up_k ht]
    have n12 : ∀ t, t ≠ k → N2 (om + 12) t = M (om + 12) t := fun t ht => by
      rw [hN2, j_up_k ht, hN1, j_up_o (a := om + 12) (by omega)]
    have m11 : N2 (om + 11) k = -1 := by rw [hN2, j_up_o (a := om + 11) (by omega), hN1, j_up_s]
    have m12 : N2 (om + 12) k = 0 := by rw [hN2, j_up_s]
    have hC2 : CT N2 om (q_cand xs ys) (q_chains (q_cand xs ys) xs.length D) xs.length (k + 1) := fun t ht1 ht2 => by
      rw [n11 t (by omega), n12 t (by omega)]
      exact hC t ht1 ht2
    have o1 := m_occurs hla hx24 k1 ((xs[k]?).getD (-1))
    have o2 := m_occurs hlb hy24 k2 ((xs[k]?).getD (-1))
    have b1 := l_cnt_le (xs := xs) (v := (xs[k]?).getD (-1)) xs.length 0
    have b2 := l_cnt_le (xs := ys) (v := (xs[k]?).getD (-1)) ys.length 0
    have hmain : ∃ N3, (if nI (l_cnt xs ((xs[k]?).getD (-1)) 0 xs.length) = (1 : Int32) then ((some (nI (l_cnt ys ((xs[k]?).getD (-1)) 0 ys.length))).bind fun xx17 => if xx17 = (1 : Int32) then ((lp_X10_tellCandidates_2 Y (nI ys.length) (om + tb) (nI k) (om + ta) om j_fuel (0 : Int32) N2).bind fun xx55 => (lp_X10_tellCandidates_3 Y (nI xs.length) om (nI k) j_fuel (nI (k + 1)) (j_up xx55 (om + 12) k (1 : Int32))).bind fun xx54 => some xx54) else some N2) else some N2) = some N3 ∧ MF om [11, 12] [] N2 N3 ∧ CT N3 om (q_cand xs ys) (q_chains (q_cand xs ys) xs.length (D + 1)) xs.length k := by
      by_cases q1 : l_once xs ((xs[k]?).getD (-1)) = true ∧ l_once ys ((xs[k]?).getD (-1)) = true
      · obtain ⟨q1, q2⟩ := q1
        have c1 := l_once_cnt.mp q1
        have c2 := l_once_cnt.mp q2
        rw [c1, c2, show nI 1 = (1 : Int32) from rfl, if_pos rfl]
        dsimp only [Option.bind]
        rw [if_pos rfl]
        cases hf : l_find ys ((xs[k]?).getD (-1)) 0 ys.length with
        | none =>
          have := (l_cnt_none ys.length 0).mp hf
          omega
        | some t =>
          have ht := l_find_lt hf
          have e3 := l_cnt_some _ _ _ hf
          rw [Nat.zero_add] at e3
          have e4 := (l_cnt_none (xs := ys) (v := (xs[k]?).getD (-1)) (ys.length - (t + 1)) (t + 1)).mpr (by omega)
          have hqc : q_cand xs ys k = some t := by
            unfold q_cand
            rw [q1, q2, hf]
            rfl
          have hu : ∀ j, j < ys.length → ((ys[j]?).getD (-1) = (xs[k]?).getD (-1) ↔ j = t) := fun j hj => by
            constructor
            · intro e
              rcases Nat.lt_trichotomy j t with q | q | q
              · exact absurd e (l_find_first hf j (Nat.zero_le _) q)
              · exact q
              · exact absurd e (l_find_none e4 j (by omega) (by omega))
            · intro e
              rw [e]
              exact l_find_at hf
          obtain ⟨N4, a1, a2, a3, a4⟩ := m_cand2 hy hla hlb ⟨hta.1, hta.2.1⟩ ⟨htb.1, htb.2.1⟩ hx24 hy24 hkx hu ys.length 0 j_fuel N2 (by omega) (j_fuel_gt (by omega)) k1 k2 (fun q => absurd q (Nat.not_lt_zero _))
          have f5 : MF om [11, 12] [] N4 (j_up N4 (om + 12) k 1) := MF.ua.mono (by simp) (by simp)
          have hC4 : CT (j_up N4 (om + 12) k 1) om (q_cand xs ys) (q_chains (q_cand xs ys) xs.length D) xs.length (k + 1) := fun u hu1 hu2 => by
            rw [j_up_k (o := om + 12) (by omega), j_up_o (a := om + 11) (by omega), a3 _ _ (Or.inr (by omega)), a3 _ _ (Or.inr (by omega))]
            exact hC2 u hu1 hu2
          obtain ⟨N5, d1, d2, d3, d4, d5⟩ := m_cand3 hy (c := q_cand xs ys) (h := q_chains (q_cand xs ys) xs.length D) hx24 hc9 (fun u => Nat.le_trans (hle u) (by omega)) hkx D (k + 1) j_fuel 0 (j_up N4 (om + 12) k 1) (by omega) (j_fuel_gt (by omega)) (Nat.zero_le _) (Nat.lt_succ_self _) hC4
            (by rw [j_up_o (a := om + 11) (by omega), a4 (by omega), hqc]; rfl) j_up_s
          refine ⟨N5, ?_, ((a2.mono (by simp) (by simp)).trans f5).trans (d2.mono (by simp) (by simp)), fun u hu1 hu2 => ?_⟩
          · rw [nI_0] at a1
            rw [a1]
            dsimp only
            rw [d1]
          · rw [q_chains, hD2, hD3, hqc]
            show _ ∧ _ = nI (f_up _ _ _ u)
            by_cases e : u = k
            · subst e
              rw [f_up_s, d4, d5]
              exact ⟨rfl, rfl⟩
            · rw [f_up_n e]
              exact d3 u (by omega) hu2
      · have hqc : q_cand xs ys k = none := by
          unfold q_cand
          rw [if_neg]
          intro c
          rw [Bool.and_eq_true] at c
          exact q1 c
        refine ⟨N2, ?_, MF.refl, fun u hu1 hu2 => ?_⟩
        · by_cases q2 : l_once xs ((xs[k]?).getD (-1)) = true
          · have q3 : ¬ l_once ys ((xs[k]?).getD (-1)) = true := fun c => q1 ⟨q2, c⟩
            have c1 := l_once_cnt.mp q2
            have c2 : ¬ nI (l_cnt ys ((xs[k]?).getD (-1)) 0 ys.length) = (1 : Int32) := fun c => q3 (l_once_cnt.mpr ((nI_eq (b := 1) (by omega) (by decide)).mp c))
            rw [c1, show nI 1 = (1 : Int32) from rfl, if_pos rfl]
            dsimp only [Option.bind]
            rw [if_neg c2]
          · have c1 : ¬ nI (l_cnt xs ((xs[k]?).getD (-1)) 0 xs.length) = (1 : Int32) := fun c => q2 (l_once_cnt.mpr ((nI_eq (b := 1) (by omega) (by decide)).mp c))
            rw [if_neg c1]
        · have e0 : q_chains (q_cand xs ys) xs.length (D + 1) = q_chains (q_cand xs ys) xs.length D := by
            rw [q_chains, hD2, hqc]
            rfl
          rw [e0]
          by_cases e : u = k
          · subst e
            rw [m11, m12, hqc, q_chains_0 D u (by omega) (by omega)]
            exact ⟨rfl, rfl⟩
          · exact hC2 u (by omega) hu2
    obtain ⟨N3, e1, e2, e3⟩ := hmain
    obtain ⟨M', b3, b4, b5⟩ := ih n N3 (by omega) (by omega) (k1.eq (e2.arr (t := ta) (by simp; exact ⟨hta.1, hta.2.2⟩) hta.2.1)) (k2.eq (e2.arr (t := tb) (by simp; exact ⟨htb.1, htb.2.2⟩) htb.2.1)) (by rw [hD1]; exact e3)
    refine ⟨M', ?_, (g3.trans e2).trans b4, b5⟩
    unfold lp_X10_tellCandidates_1
    rw [ed, if_neg (nI_pos (by omega)), hL1, hL2, hK1, hK2, hla, if_pos (j_g_nI (by omega) (by omega))]
    dsimp only [lt_]
    rw [if_pos (j_g_nI (by omega) (by omega)), if_pos (j_g_nI (by omega) (by omega))]
    simp only [nI_clamp (show k < 2 ^ 31 by omega)]
    rw [← hN1, ← hN2, k1.get' hkx, o1]
    dsimp only [Option.bind]
    have hgk : j_g (nI k) 24 := j_g_nI (by omega) (by omega)
    rw [if_pos hgk, o2]
    simp only [if_pos hgk, nI_1]
    dsimp only [Option.bind] at e1
    rw [e1]
    dsimp only
    rw [ed2]
    exact b3
theorem m_candidates (hy : MdAt Y om) (hla : j_ln Y (om + ta) = 24) (hlb : j_ln Y (om + tb) = 24) (hta : ta ≠ 11 ∧ ta ≠ 0 ∧ ta ≠ 12) (htb : tb ≠ 11 ∧ tb ≠ 0 ∧ tb ≠ 12) (hx24 : xs.length ≤ 24) (hy24 : ys.length ≤ 24) (h1 : RA M (om + ta) xs) (h2 : RA M (om + tb) ys) :
      ∃ M', s_X10_tellCandidates Y M om (om + ta) (nI xs.length) (om + tb) (nI ys.length) = some M' ∧ MF om [11, 12] [] M M' ∧ CT M' om (q_cand xs ys) (q_chains (q_cand xs ys) xs.length xs.length) xs.length 0 := by
  obtain ⟨M', a1, a2, a3⟩ := m_cand1 hy hla hlb hta htb hx24 hy24 xs.length j_fuel M (Nat.le_refl _) (j_fuel_gt (by omega)) h1 h2 (fun t ht1 ht2 => by omega)
  refine ⟨M', ?_, a2, a3⟩
  unfold s_X10_tellCandidates
  dsimp only [lt_]
  rw [nI_m, a1]
  rfl
end MCS

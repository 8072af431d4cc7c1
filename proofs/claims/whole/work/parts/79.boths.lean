/-! ===== pure: class and model together: likeness ===== -/
/-- no share of lines is 'not a number' -/
abbrev q_okD (k l : Nat) : Prop := (FP.ddiv (FP.i2d ((2 : Int32) * nI k)) (FP.i2d (nI l)) &&& (0x7fffffffffffffff : UInt64)) ≤ (0x7ff0000000000000 : UInt64)
theorem q_okD_all : ∀ k : Fin 25, ∀ l : Fin 48, q_okD k.val (l.val + 1) := by decide +kernel
theorem q_okD_of {k l : Nat} (hk : k < 25) (h0 : 0 < l) (hl : l < 49) : q_okD k l := by
  have h := q_okD_all ⟨k, hk⟩ ⟨l - 1, by omega⟩
  rw [show l - 1 + 1 = l by omega] at h
  exact h
theorem q_cnt_le : ∀ (d i : Nat) (P : Nat → Option Nat), q_cnt P d i ≤ d := by
  intro d
  induction d with
  | zero => intro i P; exact Nat.le_refl _
  | succ d ih =>
    intro i P
    unfold q_cnt
    have := ih (i + 1) P
    split <;> omega
section RLI
variable {Y : JY} {M : JM}
theorem r_similarity (hY : YH Y) (hL : RLL M) : ∃ k M1 w M2, s_L_similarity Y M 0 175 = some (k, M1) ∧ s_X10_similarity Y M1 140 = some (w, M2) ∧ M2 140 0 = k ∧ (k = 0 → (M2 175 0 = j_dh w ∧ M2 175 1 = j_dl w) ∧ (w &&& (0x7fffffffffffffff : UInt64)) ≤ (0x7ff0000000000000 : UInt64)) ∧ RLL M2 := by
  have hL' := hL
  have hyM := hY.2.2.2.2.2.2.2.2.2.1
  have e1 : j_rf Y 140 1 = 140 + 1 := (hyM (1, 1, 96) (by decide)).1
  have l1 : j_ln Y (140 + 1) = 96 := (hyM (1, 1, 96) (by decide)).2
  have e2 : j_rf Y 140 2 = 140 + 2 := (hyM (2, 2, 4) (by decide)).1
  have l2 : j_ln Y (140 + 2) = 4 := (hyM (2, 2, 4) (by decide)).2
  obtain ⟨a0, a1, a2, a3, a4, a5, a6, a7, a8, a9⟩ := hL
  have a1' := a1
  have a3' := a3
  obtain ⟨ds, hS, hD⟩ := a1'
  obtain ⟨hs, hH, hHm⟩ := a3'
  have a7' := a7
  obtain ⟨mk, xs, ys, P, anc, mv, hC, hCm⟩ := a7'
  have hyC := hY.2.2.2.2.2.2.1.2
  have h66 : j_rf Y 0 6 = 66 := hY.2.2.2.2.2.2.1.1
  have hreq : s_X9_requireComparison Y M 0 = if mk then some (Sum.inr M) else some (Sum.inl (1, M)) := by
    unfold s_X9_requireComparison s_X1_exists
    rw [h66, hC.1]
    cases mk <;> rfl
  have hz : j_z (M 140 25) = if mk then 1 else 0 := by
    rw [hCm.1]
    cases mk <;> rfl
  have bad : ∀ k : Int32, k ≠ 0 → s_L_similarity Y M 0 175 = some (k, M) → s_X10_similarity Y M 140 = some (0, j_up M 140 0 k) → ∃ k M1 w M2, s_L_similarity Y M 0 175 = some (k, M1) ∧ s_X10_similarity Y M1 140 = some (w, M2) ∧ M2 140 0 = k ∧ (k = 0 → (M2 175 0 = j_dh w ∧ M2 175 1 = j_dl w) ∧ (w &&& (0x7fffffffffffffff : UInt64)) ≤ (0x7ff0000000000000 : UInt64)) ∧ RLL M2 := fun k hk x y =>
    ⟨k, M, 0, _, x, y, j_up_s, fun e => absurd e hk, hL'.k CF.refl (MF.uf (k := 0)) (by decide) (by decide) (by decide) (by decide) (by decide) (by decide) (by decide) (by decide)⟩
  cases mk with
  | false =>
    refine bad 1 (by decide) ?_ ?_
    · unfold s_L_similarity s_X9_similarity
      rw [hreq]
      rfl
    · unfold s_X10_similarity
      rw [hz, if_pos (by decide)]
      dsimp only [lt_]
      rw [j_up_s, if_neg (by decide)]
  | true =>
    obtain ⟨d1, d2, d3, ⟨rs7, d4⟩, d5, d6⟩ := hC.2.2.2.2 rfl
    obtain ⟨e3, e4, e5, e6, e7, e8, e9, e10, e11, e12, e13⟩ := hCm.2.2.2.2 rfl
    have hk : P.length < 25 := by
      have e := q_cnt_len xs.length 0 P e5.1 (fun p hp => ⟨Nat.zero_le _, by have := (e5.2 p hp).1; omega⟩)
      have := q_cnt_le xs.length 0 (lk P)
      omega
    have p5 : s_X0_pairs Y M (66 + 5) = nI P.length := d4.2.2.1
    by_cases h0 : xs.length + ys.length = 0
    · refine bad 2 (by decide) ?_ ?_
      · unfold s_L_similarity s_X9_similarity s_X1_first s_X1_second
        rw [hreq, if_pos rfl]
        dsimp only [Option.bind, lt_]
        rw [h66, hyC.1.1, hyC.2.1.1, p_size d1, p_size d2, nI_add, h0, if_pos (by decide)]
        rfl
      · unfold s_X10_similarity
        rw [hz, if_neg (by decide), e6, e7, nI_add, h0, if_pos (by decide)]
        dsimp only [lt_]
        rw [j_up_s, if_neg (by decide)]
    · have ok := q_okD_of (k := P.length) (l := xs.length + ys.length) hk (by omega) (by omega)
      obtain ⟨w, hw⟩ : ∃ w, w = FP.ddiv (FP.i2d ((2 : Int32) * nI P.length)) (FP.i2d (nI (xs.length + ys.length))) := ⟨_, rfl⟩
      have ok2 : (w &&& (0x7fffffffffffffff : UInt64)) ≤ (0x7ff0000000000000 : UInt64) := by rw [hw]; exact ok
      have n0 : ¬ nI (xs.length + ys.length) = 0 := fun c => h0 ((nI_eq (b := 0) (by omega) (by decide)).mp c)
      have hCF : CF [] [] M (j_upd M 175 0 w) := CF.outD
      have f0 : MF 140 [] [0] (j_upd M 175 0 w) (j_up (j_upd M 175 0 w) 140 0 0) := MF.uf
      have hmd : ∀ t, t < 34 → j_upd M 175 0 w (140 + t) = M (140 + t) := fun t ht => hCF.md (by decide) ht
      refine ⟨0, j_upd M 175 0 w, w, j_up (j_upd M 175 0 w) 140 0 0, ?_, ?_, j_up_s, fun _ => ⟨⟨?_, ?_⟩, ok2⟩, hL'.k hCF f0 (by decide) (by decide) (by decide) (by decide) (by decide) (by decide) (by decide) (by decide)⟩
      · unfold s_L_similarity s_X9_similarity s_X1_first s_X1_second s_X1_alignment
        rw [hreq, if_pos rfl]
        dsimp only [Option.bind, lt_]
        rw [h66, hyC.1.1, hyC.2.1.1, hyC.2.2.1.1, p_size d1, p_size d2, nI_add, if_neg n0, p5, ← hw, if_pos ok2]
        dsimp only
        rw [hY.2.2.2.2.2.2.2.2.2.2.2, if_pos (by decide)]
        rfl
      · have h0' := congrFun (hmd 0 (by decide))
        have f27 : M 140 27 = nI xs.length := e6
        have g27 : j_up (j_upd M 175 0 w) 140 0 0 140 27 = nI xs.length := (j_up_k (by decide)).trans ((h0' 27).trans e6)
        have g29 : j_up (j_upd M 175 0 w) 140 0 0 140 29 = nI ys.length := (j_up_k (by decide)).trans ((h0' 29).trans e7)
        have pm := m_pairMany hyM (M := j_up (j_upd M 175 0 w) 140 0 0) (xs := xs) (ys := ys) e3 e5.1 e5.2 e4 g27 ((e10.eq (hmd 17 (by decide))).eq (f0.arr (t := 17) (by simp) (by decide)))
        unfold s_X10_similarity
        rw [h0' 25, hz, if_neg (by decide), h0' 27, h0' 29, e6, e7, nI_add, if_neg n0]
        dsimp only [lt_]
        rw [j_up_s, if_pos rfl, pm]
        dsimp only [Option.bind]
        rw [g27, g29, nI_add, ← hw, if_pos ok2]
      · rw [j_up_o (by decide)]
        unfold j_upd
        rw [j_up_k (by decide), j_up_s]
      · rw [j_up_o (by decide)]
        unfold j_upd
        rw [j_up_s]
end RLI

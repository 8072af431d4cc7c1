/-! ===== pure: class and model together: input and comparison ===== -/
section RLF
variable {Y : JY} {M : JM}
theorem r_feed (hY : YH Y) (hL : RLL M) (c : Int32) (hc : vp_nar .char c = c) : AG (s_L_feed Y M 0 c 174) (fun N => s_X10_feed Y N 140 c) := by
  have hL' := hL
  have hyM := hY.2.2.2.2.2.2.2.2.2.1
  have e1 : j_rf Y 140 1 = 140 + 1 := (hyM (1, 1, 96) (by decide)).1
  have l1 : j_ln Y (140 + 1) = 96 := (hyM (1, 1, 96) (by decide)).2
  have e2 : j_rf Y 140 2 = 140 + 2 := (hyM (2, 2, 4) (by decide)).1
  have l2 : j_ln Y (140 + 2) = 4 := (hyM (2, 2, 4) (by decide)).2
  obtain ⟨a0, a1, a2, a3, a4, a5, a6, a7, a8, a9⟩ := hL
  have a1' := a1
  have a3' := a3
  obtain ⟨ds, hS, hD⟩ := a1'
  obtain ⟨hs, hH, hHm⟩ := a3'
  have a4' := a4
  obtain ⟨tp, hT, hTm⟩ := a4'
  have hyI := hY.2.2.2.1.2
  have h9 := hT.2.1
  have hfull : s_X3_isFull Y M (j_rf Y 0 3) = if tp.length < 50 then 0 else 1 := by
    unfold s_X3_isFull
    rw [hY.2.2.2.1.1, hyI.1.1, p_isFull hyI.1.2 hT]
  by_cases hl : tp.length < 50
  · have r1 := p_push_LN hyI.1.2 hT hl c
    have r2 := p_push_fr hyI.1.2 hT hl c
    obtain ⟨M2, hM2⟩ : ∃ z, z = s_X4_push Y M (48 + 1) c := ⟨_, rfl⟩
    rw [← hM2] at r1 r2
    have hCF : CF [(49, 51)] [] M (j_up M2 174 0 (nI (tp.length + 1))) := (CF.of r2 (by decide) (by decide)).trans CF.out
    have hmd : ∀ t, t < 34 → j_up M2 174 0 (nI (tp.length + 1)) (140 + t) = M (140 + t) := fun t ht => hCF.md (by decide) ht
    obtain ⟨M4, c1, c2, c3, c4⟩ := m_feed hyM (hTm.q (hmd 3 (by decide)) (congrFun (hmd 0 (by decide)) 6)) hl hc
    have fo : JFr 174 175 M2 (j_up M2 174 0 (nI (tp.length + 1))) := JFr.up
    have fm : JFr 140 174 _ M4 := c2.jfr (by decide)
    refine AG.ok (v := nI (tp.length + 1)) (M0 := M2) ?_ c1 c3 c2 (by decide) ⟨a0.k hCF c2 (by decide), a1.k hCF c2 (by decide), a2.k hCF c2 (by decide), a3.k hCF c2 (by decide), ⟨_, (r1.frame fo (by decide)).frame fm (by decide), c4⟩, a5.k hCF c2 (by decide), a6.k hCF c2 (by decide), a7.k hCF c2 (by decide), a8.k hCF c2 (by decide), a9.k hCF c2 (by decide)⟩
    unfold s_L_feed s_X9_feed
    rw [hfull, if_pos hl, if_pos rfl]
    unfold s_X3_take
    dsimp only [lt_, Option.bind]
    rw [hY.2.2.2.1.1, hyI.1.1, ← hM2, p_size r1, List.length_append]
    exact h_ret hY
  · refine AG.bad (k := 1) (by decide) ?_ ?_ hL'
    · unfold s_L_feed s_X9_feed
      rw [hfull, if_neg hl, if_neg (by decide)]
      rfl
    · show s_X10_feed Y M 140 c = some (0, _)
      unfold s_X10_feed
      rw [hTm.1, if_pos (by rw [show tp.length = 50 by omega]; rfl)]
      rfl
theorem r_readDocument (hY : YH Y) (hL : RLL M) (p : Int32) : AG (s_L_readDocument Y M 0 p 174) (fun N => s_X10_readDocument Y N 140 p) := by
  have hL' := hL
  have hyM := hY.2.2.2.2.2.2.2.2.2.1
  have e1 : j_rf Y 140 1 = 140 + 1 := (hyM (1, 1, 96) (by decide)).1
  have l1 : j_ln Y (140 + 1) = 96 := (hyM (1, 1, 96) (by decide)).2
  have e2 : j_rf Y 140 2 = 140 + 2 := (hyM (2, 2, 4) (by decide)).1
  have l2 : j_ln Y (140 + 2) = 4 := (hyM (2, 2, 4) (by decide)).2
  obtain ⟨a0, a1, a2, a3, a4, a5, a6, a7, a8, a9⟩ := hL
  have a1' := a1
  have a3' := a3
  obtain ⟨ds, hS, hD⟩ := a1'
  obtain ⟨hs, hH, hHm⟩ := a3'
  have a4' := a4
  have a5' := a5
  obtain ⟨tp, hT, hTm⟩ := a4'
  obtain ⟨xs5, h5⟩ := a5'
  have hyI := hY.2.2.2.1.2
  have h9 := hT.2.1
  have herr := p_errorPosition (Y := Y) (o := 48) hyI hT
  have hb := rd_bound tp 0 (-1) [] 0 []
  have pre : ∃ fl M1, (if oI (rd tp 0 (-1) [] 0 []).1 = (-1 : Int32) then ((s_X3_expandInto Y M 48 53).bind fun xx6 => if xx6.1 = 0 then (some ((0 : Int32), xx6.2)) else (some ((1 : Int32), xx6.2))) else (some ((0 : Int32), M))) = some (fl, M1) ∧ JFr 51 55 M M1 ∧ (∃ V, LN M1 53 24 V) ∧
      ((rd tp 0 (-1) [] 0 []).1 = none → (24 < (rd tp 0 (-1) [] 0 []).2.length → fl = 0) ∧ ((rd tp 0 (-1) [] 0 []).2.length ≤ 24 → fl = 1 ∧ LN M1 53 24 (rd tp 0 (-1) [] 0 []).2)) := by
    cases hr : (rd tp 0 (-1) [] 0 []).1 with
    | some e =>
      have := hb e hr
      rw [if_neg (show ¬ oI (some e) = (-1 : Int32) from nI_m1 (by omega))]
      exact ⟨0, M, rfl, JFr.refl, ⟨xs5, h5⟩, fun c => absurd c (by simp)⟩
    | none =>
      rw [if_pos (show oI none = (-1 : Int32) from rfl)]
      obtain ⟨M1, b1, b2, b3, b4⟩ := p_expandInto (Y := Y) (o := 48) (q := 53) hyI hY.2.2.2.2.1.2 (by decide) hT hr
      rw [b1]
      have b5 : JFr 51 55 M M1 := fun a ha => b2 a (by omega)
      by_cases c : (rd tp 0 (-1) [] 0 []).2.length ≤ 24
      · rw [if_pos c]
        exact ⟨1, M1, rfl, b5, b4, fun _ => ⟨fun x => by omega, fun _ => ⟨rfl, b3 c⟩⟩⟩
      · rw [if_neg c]
        exact ⟨0, M1, rfl, b5, b4, fun _ => ⟨fun _ => rfl, fun x => by omega⟩⟩
  obtain ⟨fl, M1, q1, q2, q3, q4⟩ := pre
  have t2 := p_clear_LN (Y := Y) (M := M1) (o := 49) (cap := 50)
  have f2 := p_clear_fr (Y := Y) (M := M1) (o := 49)
  obtain ⟨M2, hM2⟩ : ∃ z, z = s_X4_clear Y M1 49 := ⟨_, rfl⟩
  rw [← hM2] at t2 f2
  obtain ⟨V, hV⟩ := q3
  have hV2 := hV.frame f2 (by decide)
  have G : JFr 49 55 M M2 := (q2.mono (by decide) (by decide)).trans (f2.mono (by decide) (by decide))
  have hcls : s_X9_readDocument Y M 0 p = ((s_X9_document Y M2 0 p).bind fun xx12 => match xx12 with | Sum.inl txx12 => (some (Sum.inl txx12)) | Sum.inr uxx12 => (if oI (rd tp 0 (-1) [] 0 []).1 = (-1 : Int32) then (if fl = 0 then (some (Sum.inl (1, uxx12.2))) else ((s_X9_changeTo Y uxx12.2 0 p uxx12.1 53).bind fun xx17 => some (Sum.inr (xx17.1, xx17.2)))) else (some (Sum.inr (((-100 : Int32) - oI (rd tp 0 (-1) [] 0 []).1), uxx12.2))))) := by
    unfold s_X9_readDocument
    rw [hY.2.2.2.1.1, hY.2.2.2.2.1.1, herr]
    dsimp only [Option.bind] at q1 ⊢
    rw [q1]
    dsimp only [lt_]
    unfold s_X3_discard
    dsimp only [lt_]
    rw [hyI.1.1, ← hM2]
    rfl
  have hCF0 : CF [(1, 13), (25, 48), (49, 55)] [] M M2 := CF.of G (by decide) (by decide)
  by_cases hp : ∃ r : Nat, r < 4 ∧ p = nI r
  · obtain ⟨r, hr, rfl⟩ := hp
    have hdoc := hS r hr
    have hya := hY.1.2.2.2.2.2 r hr
    have hmd0 : ∀ t, t < 34 → M2 (140 + t) = M (140 + t) := fun t ht => hCF0.md (by decide) ht
    rw [h_doc hY hr] at hcls
    dsimp only [Option.bind] at hcls
    cases hr1 : (rd tp 0 (-1) [] 0 []).1 with
    | some e =>
      have he := hb e hr1
      rw [hr1, if_neg (show ¬ oI (some e) = (-1 : Int32) from nI_m1 (by omega))] at hcls
      have hcls : s_X9_readDocument Y M 0 (nI r) = some (Sum.inr ((-100 : Int32) - nI e, M2)) := hcls
      have hCF : CF [(1, 13), (25, 48), (49, 55)] [] M (j_up M2 174 0 ((-100 : Int32) - nI e)) := hCF0.trans CF.out
      have hmd : ∀ t, t < 34 → j_up M2 174 0 ((-100 : Int32) - nI e) (140 + t) = M (140 + t) := fun t ht => hCF.md (by decide) ht
      obtain ⟨M4, c2, c3, c4⟩ := m_readDocument hyM (hD.eq (hmd 1 (by decide)) (hmd 2 (by decide))) (hHm.q (fun t ht => hmd t (by revert ht; revert t; decide)) (congrFun (hmd 0 (by decide)) 10)) (hTm.q (hmd 3 (by decide)) (congrFun (hmd 0 (by decide)) 6)) hr
      rcases c4 with ⟨e', d1, d2, d3, d4, d5⟩ | ⟨d1, -⟩ | ⟨d1, -⟩
      · have ee : e' = e := by rw [hr1] at d1; exact (Option.some.inj d1).symm
        rw [ee] at d2
        have fo : JFr 174 175 M2 (j_up M2 174 0 ((-100 : Int32) - nI e)) := JFr.up
        have fm : JFr 140 174 _ M4 := c2.jfr (by decide)
        refine AG.ok (v := (-100 : Int32) - nI e) (M0 := M2) ?_ d2 d3 c2 (by decide) ⟨a0.k hCF c2 (by decide), ⟨ds, ((hS.frame G (by decide)).frame fo (by decide)).frame fm (by decide), d4⟩, a2.k hCF c2 (by decide), ⟨hs, ((hH.frame G (by decide)).frame fo (by decide)).frame fm (by decide), d5⟩, ⟨[], (t2.frame fo (by decide)).frame fm (by decide), c3⟩, ⟨V, (hV2.frame fo (by decide)).frame fm (by decide)⟩, a6.k hCF c2 (by decide), a7.k hCF c2 (by decide), a8.k hCF c2 (by decide), a9.k hCF c2 (by decide)⟩
        unfold s_L_readDocument
        rw [hcls]
        exact h_ret hY
      · rw [hr1] at d1; exact absurd d1 (by simp)
      · rw [hr1] at d1; exact absurd d1 (by simp)
    | none =>
      rw [hr1, if_pos (show oI none = (-1 : Int32) from rfl)] at hcls
      obtain ⟨g1, g2⟩ := q4 hr1
      by_cases c : (rd tp 0 (-1) [] 0 []).2.length ≤ 24
      · obtain ⟨g3, g4⟩ := g2 c
        rw [g3, if_neg (by decide)] at hcls
        obtain ⟨U, hU⟩ : ∃ z, z = (rd tp 0 (-1) [] 0 []).2 := ⟨_, rfl⟩
        rw [← hU] at g4 c
        have g5 := g4.frame f2 (by decide)
        have hdoc2 := hdoc.frame G (by omega)
        have hH2 := hH.frame G (by decide)
        obtain ⟨M3, b1, b2, b3⟩ := p_hsRemember hY.2.2.1.2 hH2 hya.2 hdoc2 (by omega) hr
        obtain ⟨M5, r0, r2, r1⟩ := p_become (M := M3) hya.2 hY.2.2.2.2.1.2 (g5.frame b2 (by decide)) (by omega) c
        have hcls2 : s_X9_readDocument Y M 0 (nI r) = some (Sum.inr (nI U.length, M5)) := by
          rw [hcls]
          unfold s_X9_changeTo
          rw [hY.2.2.1.1, b1]
          dsimp only [Option.bind]
          rw [r0]
          dsimp only
          rw [p_size r1]
        have hCF : CF [(1, 13), (25, 48), (49, 55)] [] M (j_up M5 174 0 (nI U.length)) := (hCF0.trans ((CF.of b2 (by decide) (by decide)).trans (CF.of (r2.mono (lo' := 1) (hi' := 13) (by omega) (by omega)) (by decide) (by decide)))).trans CF.out
        have hmd : ∀ t, t < 34 → j_up M5 174 0 (nI U.length) (140 + t) = M (140 + t) := fun t ht => hCF.md (by decide) ht
        obtain ⟨M4, c2, c3, c4⟩ := m_readDocument hyM (hD.eq (hmd 1 (by decide)) (hmd 2 (by decide))) (hHm.q (fun t ht => hmd t (by revert ht; revert t; decide)) (congrFun (hmd 0 (by decide)) 10)) (hTm.q (hmd 3 (by decide)) (congrFun (hmd 0 (by decide)) 6)) hr
        rw [← hU] at c4
        rcases c4 with ⟨e', d1, -⟩ | ⟨-, d1, -⟩ | ⟨d1, d0, d2, d3, d4, d5⟩
        · rw [hr1] at d1; exact absurd d1 (by simp)
        · omega
        · have fo : JFr 174 175 M5 (j_up M5 174 0 (nI U.length)) := JFr.up
          have fm : JFr 140 174 _ M4 := c2.jfr (by decide)
          have hS5 := ((hS.frame G (by decide)).frame b2 (by decide)).set r2 r1
          refine AG.ok (v := nI U.length) (M0 := M5) ?_ d2 d3 c2 (by decide) ⟨a0.k hCF c2 (by decide), ⟨_, (hS5.frame fo (by decide)).frame fm (by decide), d4⟩, a2.k hCF c2 (by decide), ⟨_, ((b3.frame r2 (by omega)).frame fo (by decide)).frame fm (by decide), d5⟩, ⟨[], ((((t2.frame b2 (by decide)).frame r2 (by omega)).frame fo (by decide)).frame fm (by decide)), c3⟩, ⟨V, ((((hV2.frame b2 (by decide)).frame r2 (by omega)).frame fo (by decide)).frame fm (by decide))⟩, a6.k hCF c2 (by decide), a7.k hCF c2 (by decide), a8.k hCF c2 (by decide), a9.k hCF c2 (by decide)⟩
          unfold s_L_readDocument
          rw [hcls2]
          exact h_ret hY
      · rw [g1 (by omega), if_pos rfl] at hcls
        have hcls : s_X9_readDocument Y M 0 (nI r) = some (Sum.inl (1, M2)) := hcls
        obtain ⟨M4, c2, c3, c4⟩ := m_readDocument hyM (hD.eq (hmd0 1 (by decide)) (hmd0 2 (by decide))) (hHm.q (fun t ht => hmd0 t (by revert ht; revert t; decide)) (congrFun (hmd0 0 (by decide)) 10)) (hTm.q (hmd0 3 (by decide)) (congrFun (hmd0 0 (by decide)) 6)) hr
        rcases c4 with ⟨e', d1, -⟩ | ⟨d1, d0, d2, d3, d4, d5⟩ | ⟨-, d1, -⟩
        · rw [hr1] at d1; exact absurd d1 (by simp)
        · have fm : JFr 140 174 _ M4 := c2.jfr (by decide)
          refine ⟨2, M2, 0, M4, ?_, d2, d3, fun e => absurd e (by decide), ⟨a0.k hCF0 c2 (by decide), ⟨ds, (hS.frame G (by decide)).frame fm (by decide), d4⟩, a2.k hCF0 c2 (by decide), ⟨hs, (hH.frame G (by decide)).frame fm (by decide), d5⟩, ⟨[], t2.frame fm (by decide), c3⟩, ⟨V, hV2.frame fm (by decide)⟩, a6.k hCF0 c2 (by decide), a7.k hCF0 c2 (by decide), a8.k hCF0 c2 (by decide), a9.k hCF0 c2 (by decide)⟩⟩
          unfold s_L_readDocument
          rw [hcls]
          rfl
        · omega
  · rw [h_docN hp] at hcls
    have hCF1 : CF [(49, 55)] [] M M2 := CF.of G (by decide) (by decide)
    have g1 : MF 140 [] [6] M2 (j_up M2 140 6 0) := MF.uf
    have g2 : MF 140 [] [0] (j_up M2 140 6 0) (j_up (j_up M2 140 6 0) 140 0 1) := MF.uf
    have c2 : MF 140 [] [0, 6] M2 (j_up (j_up M2 140 6 0) 140 0 1) := (g1.mono (by simp) (by simp)).trans (g2.mono (by simp) (by simp))
    have fm : JFr 140 174 _ (j_up (j_up M2 140 6 0) 140 0 1) := c2.jfr (by decide)
    refine ⟨1, M2, 0, _, ?_, ?_, j_up_s, fun e => absurd e (by decide), ⟨a0.k hCF0 c2 (by decide), a1.k hCF1 c2 (by decide), a2.k hCF0 c2 (by decide), a3.k hCF1 c2 (by decide), ⟨[], t2.frame fm (by decide), ⟨?_, by decide, fun i hi => absurd hi (Nat.not_lt_zero _)⟩⟩, ⟨V, hV2.frame fm (by decide)⟩, a6.k hCF0 c2 (by decide), a7.k hCF0 c2 (by decide), a8.k hCF0 c2 (by decide), a9.k hCF0 c2 (by decide)⟩⟩
    · unfold s_L_readDocument
      rw [hcls]
      rfl
    · show s_X10_readDocument Y M2 140 p = some (0, _)
      unfold s_X10_readDocument
      rw [if_pos (h_bad hp)]
      rfl
    · rw [j_up_k (by decide), j_up_s]
      rfl
theorem r_compare (hY : YH Y) (hL : RLL M) (p q : Int32) : AG (s_L_compare Y M 0 p q 174) (fun N => s_X10_compare Y N 140 p q) := by
  have hL' := hL
  have hyM := hY.2.2.2.2.2.2.2.2.2.1
  have e1 : j_rf Y 140 1 = 140 + 1 := (hyM (1, 1, 96) (by decide)).1
  have l1 : j_ln Y (140 + 1) = 96 := (hyM (1, 1, 96) (by decide)).2
  have e2 : j_rf Y 140 2 = 140 + 2 := (hyM (2, 2, 4) (by decide)).1
  have l2 : j_ln Y (140 + 2) = 4 := (hyM (2, 2, 4) (by decide)).2
  obtain ⟨a0, a1, a2, a3, a4, a5, a6, a7, a8, a9⟩ := hL
  have a1' := a1
  have a3' := a3
  obtain ⟨ds, hS, hD⟩ := a1'
  obtain ⟨hs, hH, hHm⟩ := a3'
  by_cases hp : ∃ r : Nat, r < 4 ∧ p = nI r
  · obtain ⟨f, hf, rfl⟩ := hp
    by_cases hq : ∃ r : Nat, r < 4 ∧ q = nI r
    · obtain ⟨r, hr, rfl⟩ := hq
      obtain ⟨s1, s2, s3⟩ := h_sz hD hr
      have hdoc := hS r hr
      have hdocf := hS f hf
      have h24 := hdoc.2.1
      have h24f := hdocf.2.1
      have hya := hY.1.2.2.2.2.2 r hr
      have hyaf := hY.1.2.2.2.2.2 f hf
      obtain ⟨mk0, xs0, ys0, P0, anc0, mv0, k1, k2⟩ := a7
      obtain ⟨M1, b1, b2, b3⟩ := p_make (o := 66) hY.2.2.2.2.2.2.1.2 k1 hyaf.2 hya.2 (by omega) (by omega) hdocf hdoc (M 0 9)
      obtain ⟨n, hn⟩ : ∃ z, z = (q_align (ds f) (ds r) (decide (M 0 9 = 1))).1.length := ⟨_, rfl⟩
      have hCF : CF [(66, 92)] [] M (j_up M1 174 0 (nI n)) := (CF.of b2 (by decide) (by decide)).trans CF.out
      have hmd : ∀ t, t < 34 → j_up M1 174 0 (nI n) (140 + t) = M (140 + t) := fun t ht => hCF.md (by decide) ht
      have hmo : j_up M1 174 0 (nI n) 140 3 = M 0 9 := (congrFun (hmd 0 (by decide)) 3).trans a0.1.symm
      obtain ⟨M4, c1, c2, c3, c4⟩ := m_compare hyM (hD.eq (hmd 1 (by decide)) (hmd 2 (by decide))) hf hr hmo
      rw [← hn] at c1 b1
      have fo : JFr 174 175 M1 (j_up M1 174 0 (nI n)) := JFr.up
      have fm : JFr 140 174 _ M4 := c2.jfr (by decide)
      refine AG.ok (v := nI n) (M0 := M1) ?_ c1 c3 c2 (by decide) ⟨a0.k hCF c2 (by decide), a1.k hCF c2 (by decide), a2.k hCF c2 (by decide), a3.k hCF c2 (by decide), a4.k hCF c2 (by decide), a5.k hCF c2 (by decide), a6.k hCF c2 (by decide), ⟨_, _, _, _, _, _, (b3.frame fo (by decide)).frame fm (by decide), c4⟩, a8.k hCF c2 (by decide), a9.k hCF c2 (by decide)⟩
      unfold s_L_compare s_X9_compare
      rw [h_doc hY hf]
      dsimp only [Option.bind]
      rw [h_doc hY hr]
      dsimp only
      rw [hY.2.2.2.2.2.2.1.1, b1]
      exact h_ret hY
    · refine AG.bad (k := 1) (by decide) ?_ ?_ hL'
      · unfold s_L_compare s_X9_compare
        rw [h_doc hY hf]
        dsimp only [Option.bind]
        rw [h_docN hq]
        rfl
      · show s_X10_compare Y M 140 (nI f) q = some (0, _)
        unfold s_X10_compare
        rw [if_pos (Or.inr (h_bad hq))]
        rfl
  · refine AG.bad (k := 1) (by decide) ?_ ?_ hL'
    · unfold s_L_compare s_X9_compare
      rw [h_docN hp]
      rfl
    · show s_X10_compare Y M 140 p q = some (0, _)
      unfold s_X10_compare
      rw [if_pos (Or.inl (h_bad hp))]
      rfl
theorem r_partner (hY : YH Y) (hL : RLL M) (p : Int32) : AG (s_L_partner Y M 0 p 174) (fun N => s_X10_partner Y N 140 p) := by
  have hL' := hL
  have hyM := hY.2.2.2.2.2.2.2.2.2.1
  have e1 : j_rf Y 140 1 = 140 + 1 := (hyM (1, 1, 96) (by decide)).1
  have l1 : j_ln Y (140 + 1) = 96 := (hyM (1, 1, 96) (by decide)).2
  have e2 : j_rf Y 140 2 = 140 + 2 := (hyM (2, 2, 4) (by decide)).1
  have l2 : j_ln Y (140 + 2) = 4 := (hyM (2, 2, 4) (by decide)).2
  obtain ⟨a0, a1, a2, a3, a4, a5, a6, a7, a8, a9⟩ := hL
  have a1' := a1
  have a3' := a3
  obtain ⟨ds, hS, hD⟩ := a1'
  obtain ⟨hs, hH, hHm⟩ := a3'
  have a7' := a7
  obtain ⟨mk, xs, ys, P, anc, mv, hC, hCm⟩ := a7'
  have hyC := hY.2.2.2.2.2.2.1.2
  have h66 : j_rf Y 0 6 = 66 := hY.2.2.2.2.2.2.1.1
  have hreq : s_X9_requireComparison Y M 0 = if mk then some (Sum.inr M) else some (Sum.inl (1, M)) := by
    unfold s_X9_requireComparison s_X1_exists
    rw [h66, hC.1]
    cases mk <;> rfl
  have hz : j_z (M 140 25) = if mk then 1 else 0 := by
    rw [hCm.1]
    cases mk <;> rfl
  cases mk with
  | false =>
    refine AG.bad (k := 1) (by decide) ?_ ?_ hL'
    · unfold s_L_partner s_X9_partner
      rw [hreq]
      rfl
    · show s_X10_partner Y M 140 p = some (0, _)
      unfold s_X10_partner
      rw [hz]
      rfl
  | true =>
    obtain ⟨d1, d2, d3, ⟨rs7, d4⟩, d5, d6⟩ := hC.2.2.2.2 rfl
    obtain ⟨e3, e4, e5, e6, e7, e8, e9, e10, e11, e12, e13⟩ := hCm.2.2.2.2 rfl
    have h24 := d1.2.1
    by_cases hq : ∃ i : Nat, i < xs.length ∧ p = nI i
    · obtain ⟨i, hi, rfl⟩ := hq
      have hCF : CF [] [] M (j_up M 174 0 (oI (lk P i))) := CF.out
      have f0 : MF 140 [] [0] (j_up M 174 0 (oI (lk P i))) (j_up (j_up M 174 0 (oI (lk P i))) 140 0 0) := MF.uf
      have hmd : ∀ t, t < 34 → j_up M 174 0 (oI (lk P i)) (140 + t) = M (140 + t) := fun t ht => hCF.md (by decide) ht
      refine AG.ok (v := (oI (lk P i))) (M0 := M) ?_ ?_ j_up_s f0 (by decide) (hL'.k hCF f0 (by decide) (by decide) (by decide) (by decide) (by decide) (by decide) (by decide) (by decide))
      · unfold s_L_partner s_X9_partner s_X1_first s_X1_alignment
        rw [hreq, h66, hyC.1.1, hyC.2.2.1.1, if_pos rfl]
        dsimp only [Option.bind]
        rw [if_neg (fun c => (h_has hyC.1.2 d1 _).mp c ⟨i, hi, rfl⟩), p_partnerOf hyC.2.2.1.2 d4 hi]
        exact h_ret hY
      · show s_X10_partner Y _ 140 (nI i) = _
        have h0 := congrFun (hmd 0 (by decide))
        have e30 : j_rf Y 140 30 = 140 + 17 := (hyM (30, 17, 24) (by decide)).1
        have l30 : j_ln Y (140 + 17) = 24 := (hyM (30, 17, 24) (by decide)).2
        unfold s_X10_partner
        rw [h0 25, hz, if_neg (by decide), h0 27, e6, if_neg (fun c => (m_ix (by omega)).mp c ⟨i, hi, rfl⟩), e30, l30, if_pos (j_g_nI (by omega) (by omega)), nI_clamp (by omega), hmd 17 (by decide), e10 i (by omega)]
        rfl
    · refine AG.bad (k := 2) (by decide) ?_ ?_ hL'
      · unfold s_L_partner s_X9_partner s_X1_first
        rw [hreq, h66, hyC.1.1, if_pos rfl]
        dsimp only [Option.bind]
        rw [if_pos ((h_has hyC.1.2 d1 _).mpr hq)]
        rfl
      · show s_X10_partner Y M 140 p = some (0, _)
        unfold s_X10_partner
        rw [hz, if_neg (by decide), e6, if_pos ((m_ix (by omega)).mpr hq)]
        rfl
theorem r_anchors (hY : YH Y) (hL : RLL M) : AG (s_L_anchors Y M 0  174) (fun N => some (s_X10_anchors Y N 140 )) := by
  have hL' := hL
  have hyM := hY.2.2.2.2.2.2.2.2.2.1
  have e1 : j_rf Y 140 1 = 140 + 1 := (hyM (1, 1, 96) (by decide)).1
  have l1 : j_ln Y (140 + 1) = 96 := (hyM (1, 1, 96) (by decide)).2
  have e2 : j_rf Y 140 2 = 140 + 2 := (hyM (2, 2, 4) (by decide)).1
  have l2 : j_ln Y (140 + 2) = 4 := (hyM (2, 2, 4) (by decide)).2
  obtain ⟨a0, a1, a2, a3, a4, a5, a6, a7, a8, a9⟩ := hL
  have a1' := a1
  have a3' := a3
  obtain ⟨ds, hS, hD⟩ := a1'
  obtain ⟨hs, hH, hHm⟩ := a3'
  have a7' := a7
  obtain ⟨mk, xs, ys, P, anc, mv, hC, hCm⟩ := a7'
  have hyC := hY.2.2.2.2.2.2.1.2
  have h66 : j_rf Y 0 6 = 66 := hY.2.2.2.2.2.2.1.1
  have hreq : s_X9_requireComparison Y M 0 = if mk then some (Sum.inr M) else some (Sum.inl (1, M)) := by
    unfold s_X9_requireComparison s_X1_exists
    rw [h66, hC.1]
    cases mk <;> rfl
  have hz : j_z (M 140 25) = if mk then 1 else 0 := by
    rw [hCm.1]
    cases mk <;> rfl
  cases mk with
  | false =>
    refine AG.bad (k := 1) (by decide) ?_ ?_ hL'
    · unfold s_L_anchors s_X9_anchors
      rw [hreq]
      rfl
    · show some (s_X10_anchors Y M 140 ) = some (0, _)
      unfold s_X10_anchors
      rw [hz]
      rfl
  | true =>
    obtain ⟨d1, d2, d3, ⟨rs7, d4⟩, d5, d6⟩ := hC.2.2.2.2 rfl
    obtain ⟨e3, e4, e5, e6, e7, e8, e9, e10, e11, e12, e13⟩ := hCm.2.2.2.2 rfl
    have h24 := d1.2.1
    · skip
      have hCF : CF [] [] M (j_up M 174 0 (nI anc)) := CF.out
      have f0 : MF 140 [] [0] (j_up M 174 0 (nI anc)) (j_up (j_up M 174 0 (nI anc)) 140 0 0) := MF.uf
      have hmd : ∀ t, t < 34 → j_up M 174 0 (nI anc) (140 + t) = M (140 + t) := fun t ht => hCF.md (by decide) ht
      refine AG.ok (v := (nI anc)) (M0 := M) ?_ ?_ j_up_s f0 (by decide) (hL'.k hCF f0 (by decide) (by decide) (by decide) (by decide) (by decide) (by decide) (by decide) (by decide))
      · unfold s_L_anchors s_X9_anchors s_X1_alignment
        rw [hreq, h66, hyC.2.2.1.1, if_pos rfl]
        dsimp only [Option.bind]
        have e5 : s_X0_anchorCount Y M (66 + 5) = nI anc := d4.2.2.2.1
        rw [e5]
        exact h_ret hY
      · show some (s_X10_anchors Y _ 140) = _
        have h0 := congrFun (hmd 0 (by decide))
        unfold s_X10_anchors
        rw [h0 25, hz, if_neg (by decide), h0 31, e11]
        rfl
theorem r_differences (hY : YH Y) (hL : RLL M) : AG (s_L_differences Y M 0  174) (fun N => some (s_X10_differences Y N 140 )) := by
  have hL' := hL
  have hyM := hY.2.2.2.2.2.2.2.2.2.1
  have e1 : j_rf Y 140 1 = 140 + 1 := (hyM (1, 1, 96) (by decide)).1
  have l1 : j_ln Y (140 + 1) = 96 := (hyM (1, 1, 96) (by decide)).2
  have e2 : j_rf Y 140 2 = 140 + 2 := (hyM (2, 2, 4) (by decide)).1
  have l2 : j_ln Y (140 + 2) = 4 := (hyM (2, 2, 4) (by decide)).2
  obtain ⟨a0, a1, a2, a3, a4, a5, a6, a7, a8, a9⟩ := hL
  have a1' := a1
  have a3' := a3
  obtain ⟨ds, hS, hD⟩ := a1'
  obtain ⟨hs, hH, hHm⟩ := a3'
  have a7' := a7
  obtain ⟨mk, xs, ys, P, anc, mv, hC, hCm⟩ := a7'
  have hyC := hY.2.2.2.2.2.2.1.2
  have h66 : j_rf Y 0 6 = 66 := hY.2.2.2.2.2.2.1.1
  have hreq : s_X9_requireComparison Y M 0 = if mk then some (Sum.inr M) else some (Sum.inl (1, M)) := by
    unfold s_X9_requireComparison s_X1_exists
    rw [h66, hC.1]
    cases mk <;> rfl
  have hz : j_z (M 140 25) = if mk then 1 else 0 := by
    rw [hCm.1]
    cases mk <;> rfl
  cases mk with
  | false =>
    refine AG.bad (k := 1) (by decide) ?_ ?_ hL'
    · unfold s_L_differences s_X9_differences
      rw [hreq]
      rfl
    · show some (s_X10_differences Y M 140 ) = some (0, _)
      unfold s_X10_differences
      rw [hz]
      rfl
  | true =>
    obtain ⟨d1, d2, d3, ⟨rs7, d4⟩, d5, d6⟩ := hC.2.2.2.2 rfl
    obtain ⟨e3, e4, e5, e6, e7, e8, e9, e10, e11, e12, e13⟩ := hCm.2.2.2.2 rfl
    have h24 := d1.2.1
    · skip
      have hCF : CF [] [] M (j_up M 174 0 (nI (q_diffs (lk P) xs.length ys.length).length)) := CF.out
      have f0 : MF 140 [] [0] (j_up M 174 0 (nI (q_diffs (lk P) xs.length ys.length).length)) (j_up (j_up M 174 0 (nI (q_diffs (lk P) xs.length ys.length).length)) 140 0 0) := MF.uf
      have hmd : ∀ t, t < 34 → j_up M 174 0 (nI (q_diffs (lk P) xs.length ys.length).length) (140 + t) = M (140 + t) := fun t ht => hCF.md (by decide) ht
      refine AG.ok (v := (nI (q_diffs (lk P) xs.length ys.length).length)) (M0 := M) ?_ ?_ j_up_s f0 (by decide) (hL'.k hCF f0 (by decide) (by decide) (by decide) (by decide) (by decide) (by decide) (by decide) (by decide))
      · unfold s_L_differences s_X9_differences s_X1_parts
        rw [hreq, h66, hyC.2.2.2.1.1, if_pos rfl]
        dsimp only [Option.bind]
        rw [p_rows d5]
        exact h_ret hY
      · show some (s_X10_differences Y _ 140) = _
        have h0 := congrFun (hmd 0 (by decide))
        unfold s_X10_differences
        rw [h0 25, hz, if_neg (by decide), h0 35, e12]
        rfl
theorem r_step (hY : YH Y) (hL : RLL M) (p : Int32) : AG (s_L_step Y M 0 p 174) (fun N => s_X10_step Y N 140 p) := by
  have hL' := hL
  have hyM := hY.2.2.2.2.2.2.2.2.2.1
  have e1 : j_rf Y 140 1 = 140 + 1 := (hyM (1, 1, 96) (by decide)).1
  have l1 : j_ln Y (140 + 1) = 96 := (hyM (1, 1, 96) (by decide)).2
  have e2 : j_rf Y 140 2 = 140 + 2 := (hyM (2, 2, 4) (by decide)).1
  have l2 : j_ln Y (140 + 2) = 4 := (hyM (2, 2, 4) (by decide)).2
  obtain ⟨a0, a1, a2, a3, a4, a5, a6, a7, a8, a9⟩ := hL
  have a1' := a1
  have a3' := a3
  obtain ⟨ds, hS, hD⟩ := a1'
  obtain ⟨hs, hH, hHm⟩ := a3'
  have a7' := a7
  obtain ⟨mk, xs, ys, P, anc, mv, hC, hCm⟩ := a7'
  have hyC := hY.2.2.2.2.2.2.1.2
  have h66 : j_rf Y 0 6 = 66 := hY.2.2.2.2.2.2.1.1
  have hreq : s_X9_requireComparison Y M 0 = if mk then some (Sum.inr M) else some (Sum.inl (1, M)) := by
    unfold s_X9_requireComparison s_X1_exists
    rw [h66, hC.1]
    cases mk <;> rfl
  have hz : j_z (M 140 25) = if mk then 1 else 0 := by
    rw [hCm.1]
    cases mk <;> rfl
  cases mk with
  | false =>
    refine AG.bad (k := 1) (by decide) ?_ ?_ hL'
    · unfold s_L_step s_X9_step
      rw [hreq]
      rfl
    · show s_X10_step Y M 140 p = some (0, _)
      unfold s_X10_step
      rw [hz]
      rfl
  | true =>
    obtain ⟨d1, d2, d3, ⟨rs7, d4⟩, d5, d6⟩ := hC.2.2.2.2 rfl
    obtain ⟨e3, e4, e5, e6, e7, e8, e9, e10, e11, e12, e13⟩ := hCm.2.2.2.2 rfl
    have h24 := d1.2.1
    by_cases hq : ∃ i : Nat, i < (q_steps xs ys (lk P)).length ∧ p = nI i
    · obtain ⟨i, hi, rfl⟩ := hq
      have h48 := d6.2.1
      have hCF : CF [] [] M (j_up M 174 0 (l_at (q_steps xs ys (lk P)) (nI i))) := CF.out
      have f0 : MF 140 [] [0] (j_up M 174 0 (l_at (q_steps xs ys (lk P)) (nI i))) (j_up (j_up M 174 0 (l_at (q_steps xs ys (lk P)) (nI i))) 140 0 0) := MF.uf
      have hmd : ∀ t, t < 34 → j_up M 174 0 (l_at (q_steps xs ys (lk P)) (nI i)) (140 + t) = M (140 + t) := fun t ht => hCF.md (by decide) ht
      refine AG.ok (v := (l_at (q_steps xs ys (lk P)) (nI i))) (M0 := M) ?_ ?_ j_up_s f0 (by decide) (hL'.k hCF f0 (by decide) (by decide) (by decide) (by decide) (by decide) (by decide) (by decide) (by decide))
      · unfold s_L_step s_X9_step s_X1_script
        rw [hreq, h66, hyC.2.2.2.2.1.1, if_pos rfl]
        dsimp only [Option.bind]
        rw [if_neg (fun c => (h_has hyC.2.2.2.2.1.2 d6 _).mp c ⟨i, hi, rfl⟩), p_at hyC.2.2.2.2.1.2 d6]
        exact h_ret hY
      · show s_X10_step Y _ 140 (nI i) = _
        rw [m_step hyM (hCm.q (fun t ht => hmd t (by revert ht; revert t; decide)) (fun k _ => congrFun (hmd 0 (by decide)) k)), if_pos ⟨nI_pos (by omega), by rw [nI_clamp (by omega)]; exact hi⟩]
    · refine AG.bad (k := 2) (by decide) ?_ ?_ hL'
      · unfold s_L_step s_X9_step s_X1_script
        rw [hreq, h66, hyC.2.2.2.2.1.1, if_pos rfl]
        dsimp only [Option.bind]
        rw [if_pos ((h_has hyC.2.2.2.2.1.2 d6 _).mpr hq)]
        rfl
      · show s_X10_step Y M 140 p = some (0, _)
        rw [m_step hyM hCm, if_neg]
        rintro ⟨c1, c2⟩
        obtain ⟨i, hi, rfl⟩ := nI_of c1
        rw [nI_clamp hi] at c2
        exact hq ⟨i, c2, rfl⟩
end RLF

/-! ===== pure: what build leaves ===== -/
section PB1
variable {Y : JY} {M : JM} {L : Nat} {xs : Nat → Int32} {md sh : Int32} {ds : Nat → List Int32} {hs : List (Nat × List Int32)} {es : Nat → List Int32} {sm sv : Int32}
theorem j_gI {i n : Nat} (h : i < n) (hn : i < 2 ^ 31) : j_g (nI i) n := ⟨nI_pos hn, by rw [nI_clamp hn]; exact h⟩
theorem b_loop1 (hY : YH Y) {K N : Nat} (hK : 0 < K ∧ K < 100) (hN : N ≤ 20) : ∀ (d i n : Nat) (M : JM) (ds : Nat → List Int32) (hs : List (Nat × List Int32)), N = i + d → d < n → (ds 0).length = i → ST M md sh ds hs [] es sm sv →
    ∃ M' ds' hs', lp_gb_1 Y (nI N) (nI K) L xs n (nI i) M = some M' ∧ CF [(1, 13), (25, 48)] [] M M' ∧ ST M' md sh ds' hs' [] es sm sv ∧ (ds' 0).length = N ∧ ∀ k, k ≠ 0 → ds' k = ds k := by
  intro d
  induction d with
  | zero =>
    intro i n M ds hs hi hn hl h
    obtain ⟨n, rfl⟩ : ∃ z, n = z + 1 := ⟨n - 1, by omega⟩
    refine ⟨M, ds, hs, ?_, CF.refl, h, by omega, fun _ _ => rfl⟩
    unfold lp_gb_1
    rw [if_pos (nI_le (by omega) (by omega))]
  | succ d ih =>
    intro i n M ds hs hi hn hl h
    obtain ⟨n, rfl⟩ : ∃ z, n = z + 1 := ⟨n - 1, by omega⟩
    obtain ⟨z, hz, e⟩ := x_mask ((sc_at L xs (1 : Int32)) >>> (((2 : Int32) * nI i) &&& 31)) 15
    rw [show nI 15 = (15 : Int32) from rfl] at e
    have hzk : z % K ≤ z := Nat.mod_le z K
    obtain ⟨M1, a1, a2, a3⟩ := k_append (r := 0) (w := z % K) hY h (by omega) (by omega) (by omega)
    rw [nI_0] at a1
    obtain ⟨M', ds', hs', b1, b2, b3, b4, b5⟩ := ih (i + 1) n M1 _ _ (by omega) (by omega) (by rw [f_up_s, List.length_append, List.length_singleton]; omega) a3
    refine ⟨M', ds', hs', ?_, a2.trans b2, b3, b4, fun k hk => by rw [b5 k hk, f_up_n hk]⟩
    unfold lp_gb_1
    rw [if_neg (nI_ge (by omega) (by omega)), if_pos (nI_ne0 hK.1 (by omega)), e, x_rem (by omega) hK.1 (by omega), a1]
    dsimp only [Option.bind, lt_]
    rw [nI_1]
    exact b1
theorem b_step (hY : YH Y) {K k r z2 z4 : Nat} (h : ST M md sh ds hs [] es sm sv) (hK : 0 < K ∧ K < 100) (hk : k < L) (hL : L ≤ 260) (hk9 : k < 9) (hr : r < 2) (e1 : (xs k) &&& (1 : Int32) = nI r) (e2 : ((xs k) >>> ((1 : Int32) &&& 31)) &&& (31 : Int32) = nI z2) (hz2 : z2 ≤ 31) (e4 : ((xs k) >>> ((8 : Int32) &&& 31)) &&& (15 : Int32) = nI z4) (hz4 : z4 ≤ 15) (hlen : (ds (1 + r)).length ≤ 24) (n : Nat) :
    lp_gb_2 Y L xs (nI K) (n + 1) (nI k) M = (if ¬ ((((xs k) >>> ((6 : Int32) &&& 31)) &&& (3 : Int32)) = 0) ∨ (ds (1 + r)).length = 0 then (if 20 ≤ (ds (1 + r)).length then some M else (s_X9_insert Y M 0 (nI (1 + r)) (nI (z2 % ((ds (1 + r)).length + 1))) (nI (z4 % (K + 2)))).bind fun x => some x.2) else (s_X9_delete Y M 0 (nI (1 + r)) (nI (z2 % ((ds (1 + r)).length + 1) % (ds (1 + r)).length))).bind fun x => some x.2).bind fun N => lp_gb_2 Y L xs (nI K) n (nI (k + 1)) N := by
  have hj := j_gI (i := k) (n := L) hk (by omega)
  have hm := Nat.mod_le z2 ((ds (1 + r)).length + 1)
  have hc : (nI k).toNatClampNeg = k := nI_clamp (by omega)
  obtain ⟨s, hs9⟩ : ∃ s, s = (ds (1 + r)).length := ⟨_, rfl⟩
  have hlen' := k_length hY h.2.1 (r := 1 + r) (by omega)
  rw [← hs9] at hlen hm hlen' ⊢
  rw [lp_gb_2, if_neg (by
    rintro (c | c)
    · exact nI_ge hk (by omega) c
    · rw [show (9 : Int32) = nI 9 from rfl] at c
      exact nI_ge hk9 (by omega) c), if_pos hj]
  simp only [hc]
  rw [e1, show (1 : Int32) + nI r = nI (1 + r) from nI_add 1 r]
  dsimp only [lt_]
  rw [hlen']
  dsimp only [Option.bind]
  rw [if_pos hj, nI_1, if_pos (nI_ne0 (by omega) (by omega)), e2, x_rem (by omega) (by omega) (by omega), if_pos hj]
  by_cases q : ¬ ((((xs k) >>> ((6 : Int32) &&& 31)) &&& (3 : Int32)) = 0) ∨ s = 0
  · have q' : ¬ ((((xs k) >>> ((6 : Int32) &&& 31)) &&& (3 : Int32)) = 0) ∨ nI s ≤ 0 := q.imp id (fun h => (nI_le0 (by omega)).mpr h)
    rw [if_pos q, if_pos q']
    by_cases q2 : 20 ≤ s
    · rw [if_pos q2, if_pos (show (20 : Int32) ≤ nI s by rw [show (20 : Int32) = nI 20 from rfl]; exact nI_le q2 (by omega))]
      dsimp only
      rw [nI_1]
    · rw [if_neg q2, if_neg (show ¬ (20 : Int32) ≤ nI s by rw [show (20 : Int32) = nI 20 from rfl]; exact nI_ge (by omega) (by omega)), if_pos hj, show nI K + (2 : Int32) = nI (K + 2) from nI_add K 2, if_pos (nI_ne0 (by omega) (by omega)), e4, x_rem (by omega) (by omega) (by omega), nI_1]
  · have q' : ¬ (¬ ((((xs k) >>> ((6 : Int32) &&& 31)) &&& (3 : Int32)) = 0) ∨ nI s ≤ 0) := fun c => q (c.imp id (fun h => (nI_le0 (by omega)).mp h))
    have s0 : 0 < s := Nat.pos_of_ne_zero (fun c => q (Or.inr c))
    rw [if_neg q, if_neg q', if_pos (nI_ne0 s0 (by omega)), x_rem (by omega) s0 (by omega), nI_1]
theorem b_loop2 (hY : YH Y) {K : Nat} (hK : 0 < K ∧ K < 20) (hL : L ≤ 260) : ∀ (d k n : Nat) (M : JM) (ds : Nat → List Int32) (hs : List (Nat × List Int32)), 9 = k + d → d < n → (∀ r, r < 4 → (ds r).length ≤ 20) → ST M md sh ds hs [] es sm sv →
    ∃ M' ds' hs', lp_gb_2 Y L xs (nI K) n (nI k) M = some M' ∧ CF [(1, 13), (25, 48)] [] M M' ∧ ST M' md sh ds' hs' [] es sm sv ∧ (∀ r, r < 4 → (ds' r).length ≤ 20) ∧ ∀ r, r ≠ 1 → r ≠ 2 → ds' r = ds r := by
  intro d
  induction d with
  | zero =>
    intro k n M ds hs hk hn hl h
    obtain ⟨n, rfl⟩ : ∃ z, n = z + 1 := ⟨n - 1, by omega⟩
    refine ⟨M, ds, hs, ?_, CF.refl, h, hl, fun _ _ _ => rfl⟩
    rw [lp_gb_2, if_pos (Or.inr (by rw [show (9 : Int32) = nI 9 from rfl]; exact nI_le (by omega) (by omega)))]
  | succ d ih =>
    intro k n M ds hs hk hn hl h
    obtain ⟨n, rfl⟩ : ∃ z, n = z + 1 := ⟨n - 1, by omega⟩
    by_cases qL : L ≤ k
    · refine ⟨M, ds, hs, ?_, CF.refl, h, hl, fun _ _ _ => rfl⟩
      rw [lp_gb_2, if_pos (show Int32.ofNat L ≤ nI k ∨ (9 : Int32) ≤ nI k from Or.inl (nI_le qL (by omega)))]
    · obtain ⟨r, hr, e1⟩ := x_mask (xs k) 1
      obtain ⟨z2, hz2, e2⟩ := x_mask ((xs k) >>> ((1 : Int32) &&& 31)) 31
      obtain ⟨z4, hz4, e4⟩ := x_mask ((xs k) >>> ((8 : Int32) &&& 31)) 15
      rw [show nI 1 = (1 : Int32) from rfl] at e1
      rw [show nI 31 = (31 : Int32) from rfl] at e2
      rw [show nI 15 = (15 : Int32) from rfl] at e4
      have hl1 := hl (1 + r) (by omega)
      rw [b_step (z2 := z2) (z4 := z4) hY h ⟨hK.1, by omega⟩ (by omega) hL (by omega) (by omega) e1 e2 hz2 e4 hz4 (by omega) n]
      obtain ⟨s, hs9⟩ : ∃ s, s = (ds (1 + r)).length := ⟨_, rfl⟩
      have hm4 := Nat.mod_le z4 (K + 2)
      have keep : ∀ (ys : List Int32) (t : Nat), t ≠ 1 → t ≠ 2 → f_up ds (1 + r) ys t = ds t := fun ys t h1 h2 => f_up_n (by omega)
      have len : ∀ (ys : List Int32), ys.length ≤ 20 → ∀ t, t < 4 → (f_up ds (1 + r) ys t).length ≤ 20 := fun ys hy t ht => by
        by_cases e : t = 1 + r
        · rw [e, f_up_s]; exact hy
        · rw [f_up_n e]; exact hl t ht
      by_cases q : ¬ ((((xs k) >>> ((6 : Int32) &&& 31)) &&& (3 : Int32)) = 0) ∨ (ds (1 + r)).length = 0
      · rw [if_pos q]
        by_cases q2 : 20 ≤ (ds (1 + r)).length
        · rw [if_pos q2]
          obtain ⟨M', ds', hs', b1, b2⟩ := ih (k + 1) n M ds hs (by omega) (by omega) hl h
          exact ⟨M', ds', hs', b1, b2⟩
        · rw [if_neg q2]
          have hm := Nat.mod_lt z2 (show 0 < (ds (1 + r)).length + 1 by omega)
          obtain ⟨M1, a1, a2, a3⟩ := k_insert (r := 1 + r) (i := z2 % ((ds (1 + r)).length + 1)) (w := z4 % (K + 2)) hY h (by omega) (by omega) (by omega) (by omega)
          obtain ⟨M', ds', hs', b1, b2, b3, b4, b5⟩ := ih (k + 1) n M1 _ _ (by omega) (by omega) (len _ (by rw [l_ins_len (by omega)]; omega)) a3
          refine ⟨M', ds', hs', ?_, a2.trans b2, b3, b4, fun t h1 h2 => by rw [b5 t h1 h2, keep _ t h1 h2]⟩
          rw [a1]
          exact b1
      · rw [if_neg q]
        have s0 : 0 < (ds (1 + r)).length := Nat.pos_of_ne_zero (fun c => q (Or.inr c))
        have hm := Nat.mod_lt (z2 % ((ds (1 + r)).length + 1)) s0
        obtain ⟨v, M1, a1, a2, a3⟩ := k_delete (r := 1 + r) (i := z2 % ((ds (1 + r)).length + 1) % (ds (1 + r)).length) hY h (by omega) hm
        obtain ⟨M', ds', hs', b1, b2, b3, b4, b5⟩ := ih (k + 1) n M1 _ _ (by omega) (by omega) (len _ (by rw [l_del_len hm]; omega)) a3
        refine ⟨M', ds', hs', ?_, a2.trans b2, b3, b4, fun t h1 h2 => by rw [b5 t h1 h2, keep _ t h1 h2]⟩
        rw [a1]
        exact b1
/-- what build leaves: short documents, the last one empty, nothing compared yet -/
theorem b_build (L : Nat) (xs : Nat → Int32) (hL : L ≤ 260) : ∃ M' md sh ds hs, sg_b yt_X9 mt_X9 L xs = some M' ∧ (md = 0 ∨ md = 1) ∧ (sh = 0 ∨ sh = 1) ∧ ST M' md sh ds hs [] (fun _ => []) 0 0 ∧ (∀ r, r < 4 → (ds r).length ≤ 20) ∧ ds 3 = [] ∧ CM M' 66 false [] [] [] 0 [] ∧ MG M' 92 false [] [] [] [] (fun _ => 0) ∧ PC M' 127 false [] [] [] [] := by
  have hY : YH yt_X9 := YE.H YE.start
  obtain ⟨a, ha, ea⟩ := x_mask (sc_at L xs (0 : Int32)) 15
  obtain ⟨b, hb, eb⟩ := x_mask ((sc_at L xs (0 : Int32)) >>> ((4 : Int32) &&& 31)) 7
  obtain ⟨w, hw, ew⟩ := x_mask ((sc_at L xs (0 : Int32)) >>> ((7 : Int32) &&& 31)) 1
  rw [show nI 15 = (15 : Int32) from rfl] at ea
  rw [show nI 7 = (7 : Int32) from rfl] at eb
  rw [show nI 1 = (1 : Int32) from rfl] at ew
  have hmod := Nat.mod_lt a (show 0 < 12 by decide)
  obtain ⟨M1, d1, h1, p1, p2, p3, p4, p5⟩ := b_loop1 (L := L) (xs := xs) (K := 2 + b) (N := a % 12) hY ⟨by omega, by omega⟩ (by omega) (a % 12) 0 j_fuel mt_X9 _ _ (by omega) (j_fuel_gt (by omega)) rfl mt_ST
  obtain ⟨v2, M2, q1, q2, q3⟩ := k_copy (f := 0) (r := 1) hY p3 (by decide) (by decide)
  obtain ⟨v3, M3, r1, r2, r3⟩ := k_copy (f := 0) (r := 2) hY q3 (by decide) (by decide)
  have l3 : ∀ r, r < 4 → (f_up (f_up d1 1 (d1 0)) 2 (f_up d1 1 (d1 0) 0) r).length ≤ 20 := fun r hr => by
    have e0 : f_up d1 1 (d1 0) 0 = d1 0 := f_up_n (by decide)
    rw [e0]
    by_cases c2 : r = 2
    · rw [c2, f_up_s]; omega
    · rw [f_up_n c2]
      by_cases c1 : r = 1
      · rw [c1, f_up_s]; omega
      · rw [f_up_n c1]
        by_cases c0 : r = 0
        · rw [c0]; omega
        · rw [p5 r c0]
          exact Nat.zero_le _
  obtain ⟨M4, d4, h4, s1, s2, s3, s4, s5⟩ := b_loop2 (L := L) (xs := xs) (K := 2 + b) hY ⟨by omega, by omega⟩ hL 7 2 j_fuel M3 _ _ (by omega) (j_fuel_gt (by omega)) l3 r3
  have hw1 : nI w = 0 ∨ nI w = 1 := by
    have : w = 0 ∨ w = 1 := by omega
    rcases this with rfl | rfl
    · exact Or.inl rfl
    · exact Or.inr rfl
  obtain ⟨u5, t1, t2, t3⟩ := k_setMode (v := nI w) s3 hw1
  obtain ⟨g, hg9⟩ : ∃ g : Int32, g = (if (((sc_at L xs (0 : Int32)) >>> ((8 : Int32) &&& 31)) &&& (1 : Int32)) = 0 then ((1 : Int32)) else ((0 : Int32))) := ⟨_, rfl⟩
  have hg : g = 0 ∨ g = 1 := by
    rw [hg9]
    split
    · exact Or.inr rfl
    · exact Or.inl rfl
  obtain ⟨u6, x1, x2, x3⟩ := k_setShrinking (v := g) t3 hg
  have hc : CF [(1, 13), (25, 48)] [9, 12] mt_X9 (j_up (j_up M4 0 9 (nI w)) 0 12 g) :=
    ((((p2.wide (by decide) (by decide)).trans (q2.wide (by decide) (by decide))).trans (r2.wide (by decide) (by decide))).trans (s2.wide (by decide) (by decide))).trans ((t2.wide (by decide) (by decide)).trans (x2.wide (by decide) (by decide)))
  refine ⟨_, nI w, g, d4, h4, ?_, hw1, hg, x3, s4, ?_, mt_CM.cf hc (by decide), mt_MG.cf hc (by decide), mt_PC.cf hc (by decide)⟩
  · unfold sg_b
    rw [ea, eb, ew, ← hg9]
    dsimp only [lt_]
    rw [show (12 : Int32) = nI 12 from rfl, x_rem (by omega) (by decide) (by decide), show (2 : Int32) + nI b = nI (2 + b) from nI_add 2 b]
    rw [nI_0] at p1
    rw [show nI 0 = (0 : Int32) from nI_0, show nI 1 = (1 : Int32) from rfl] at q1
    rw [show nI 0 = (0 : Int32) from nI_0, show nI 2 = (2 : Int32) from rfl] at r1
    rw [show nI 2 = (2 : Int32) from rfl] at s1
    rw [p1]
    dsimp only [Option.bind]
    rw [q1]
    dsimp only
    rw [r1]
    dsimp only
    rw [s1]
    dsimp only
    rw [t1]
    dsimp only
    rw [x1]
  · rw [s5 3 (by decide) (by decide), f_up_n (by decide), f_up_n (by decide), p5 3 (by decide)]
end PB1

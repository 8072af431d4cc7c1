/-! ===== the law: its switch and its loop ===== -/
section LWX
variable {p : Program} {l : Launch} {e : Env} {R : Room} {s : State} {m : MethodId} {args : Array Value} {below : List Frame} {meth : Method} {c : Code} {H : Heap} {locs : List Loc} {cells slots : Nat} {Q : State → Prop}
variable {ls : Array Slot} {D : va_G} {Y : JY} {ty : Nat → ClassId} {ad : Nat → Nat} {A : Nat → Prop} {M : JM} {L b i : Nat} {xs : Nat → Int32}
theorem lw_body (K : lw_C p l R s m args c D Y ty A L b xs) (w : JW D Y ty ad A s.heap M H locs) (hR : RLL M) (hi : 4 * i + 4 ≤ L) (hl : lv_has ls 9 (lw_ls ad b i)) (hcR : cells + 4 ≤ R.cells) (hsR : slots + 24 ≤ R.slots) (kk : lw_K p l e R s m args below meth c cells slots Q D Y ty ad A b i) : W p l e R s m args below meth c H locs cells slots Q (F0 m 37 ls []) := by
  have K9 := K
  obtain ⟨jc, jx, hA, ⟨hX, hbl, hbA, hL⟩, -⟩ := K
  have hx := jc.1
  have hb := jc.2.1
  refine lv_aload_n hx hb dL_law_37 rfl (lv_at hl 0 rfl) ?_
  refine lv_iload hx hb dL_law_38 (lv_at hl 5 rfl) ?_
  refine va_sld hx hb hX hbl hbA w.2.2 (j_g_in (j_g_nI (by omega) (by omega))) dL_law_40 ?_
  refine lv_bipush (v := nI 63) hx hb dL_law_41 (by decide) ?_
  refine lv_iand hx hb dL_law_43 ?_
  generalize xs (nI (4 * i)).toNatClampNeg &&& nI 63 = x
  by_cases hn : x.toInt < 0 ∨ 35 < x.toInt
  · exact lv_tableOut (tgt := 2340) hx hb dL_law_44 hn (by decide) (kk H locs ls cells slots M w hR hl (Nat.le_add_right _ _) (Nat.le_add_right _ _))
  · obtain ⟨n, hn9⟩ : ∃ n : Nat, x.toInt = n := ⟨x.toInt.toNat, by omega⟩
    have hn36 : n < 36 := by omega
    have h1 : ¬ x.toInt < 0 := by omega
    have h2 : ¬ 35 < x.toInt := by omega
    match n, hn36, hn9 with
    | 0, _, hn9 => exact lv_tableIn (off := 160) (tgt := 204) hx hb dL_law_44 h1 h2 (by rw [hn9]; rfl) (by decide) (lw_c204 K9 w hR hi hl hcR hsR kk)
    | 1, _, hn9 => exact lv_tableIn (off := 228) (tgt := 272) hx hb dL_law_44 h1 h2 (by rw [hn9]; rfl) (by decide) (lw_c272 K9 w hR hi hl hcR hsR kk)
    | 2, _, hn9 => exact lv_tableIn (off := 308) (tgt := 352) hx hb dL_law_44 h1 h2 (by rw [hn9]; rfl) (by decide) (lw_c352 K9 w hR hi hl hcR hsR kk)
    | 3, _, hn9 => exact lv_tableIn (off := 376) (tgt := 420) hx hb dL_law_44 h1 h2 (by rw [hn9]; rfl) (by decide) (lw_c420 K9 w hR hi hl hcR hsR kk)
    | 4, _, hn9 => exact lv_tableIn (off := 432) (tgt := 476) hx hb dL_law_44 h1 h2 (by rw [hn9]; rfl) (by decide) (lw_c476 K9 w hR hi hl hcR hsR kk)
    | 5, _, hn9 => exact lv_tableIn (off := 500) (tgt := 544) hx hb dL_law_44 h1 h2 (by rw [hn9]; rfl) (by decide) (lw_c544 K9 w hR hi hl hcR hsR kk)
    | 6, _, hn9 => exact lv_tableIn (off := 568) (tgt := 612) hx hb dL_law_44 h1 h2 (by rw [hn9]; rfl) (by decide) (lw_c612 K9 w hR hi hl hcR hsR kk)
    | 7, _, hn9 => exact lv_tableIn (off := 643) (tgt := 687) hx hb dL_law_44 h1 h2 (by rw [hn9]; rfl) (by decide) (lw_c687 K9 w hR hi hl hcR hsR kk)
    | 8, _, hn9 => exact lv_tableIn (off := 711) (tgt := 755) hx hb dL_law_44 h1 h2 (by rw [hn9]; rfl) (by decide) (lw_c755 K9 w hR hi hl hcR hsR kk)
    | 9, _, hn9 => exact lv_tableIn (off := 769) (tgt := 813) hx hb dL_law_44 h1 h2 (by rw [hn9]; rfl) (by decide) (lw_c813 K9 w hR hi hl hcR hsR kk)
    | 10, _, hn9 => exact lv_tableIn (off := 825) (tgt := 869) hx hb dL_law_44 h1 h2 (by rw [hn9]; rfl) (by decide) (lw_c869 K9 w hR hi hl hcR hsR kk)
    | 11, _, hn9 => exact lv_tableIn (off := 881) (tgt := 925) hx hb dL_law_44 h1 h2 (by rw [hn9]; rfl) (by decide) (lw_c925 K9 w hR hi hl hcR hsR kk)
    | 12, _, hn9 => exact lv_tableIn (off := 949) (tgt := 993) hx hb dL_law_44 h1 h2 (by rw [hn9]; rfl) (by decide) (lw_c993 K9 w hR hi hl hcR hsR kk)
    | 13, _, hn9 => exact lv_tableIn (off := 1005) (tgt := 1049) hx hb dL_law_44 h1 h2 (by rw [hn9]; rfl) (by decide) (lw_c1049 K9 w hR hi hl hcR hsR kk)
    | 14, _, hn9 => exact lv_tableIn (off := 1049) (tgt := 1093) hx hb dL_law_44 h1 h2 (by rw [hn9]; rfl) (by decide) (lw_c1093 K9 w hR hi hl hcR hsR kk)
    | 15, _, hn9 => exact lv_tableIn (off := 1093) (tgt := 1137) hx hb dL_law_44 h1 h2 (by rw [hn9]; rfl) (by decide) (lw_c1137 K9 w hR hi hl hcR hsR kk)
    | 16, _, hn9 => exact lv_tableIn (off := 1161) (tgt := 1205) hx hb dL_law_44 h1 h2 (by rw [hn9]; rfl) (by decide) (lw_c1205 K9 w hR hi hl hcR hsR kk)
    | 17, _, hn9 => exact lv_tableIn (off := 1217) (tgt := 1261) hx hb dL_law_44 h1 h2 (by rw [hn9]; rfl) (by decide) (lw_c1261 K9 w hR hi hl hcR hsR kk)
    | 18, _, hn9 => exact lv_tableIn (off := 1282) (tgt := 1326) hx hb dL_law_44 h1 h2 (by rw [hn9]; rfl) (by decide) (lw_c1326 K9 w hR hi hl hcR hsR kk)
    | 19, _, hn9 => exact lv_tableIn (off := 1338) (tgt := 1382) hx hb dL_law_44 h1 h2 (by rw [hn9]; rfl) (by decide) (lw_c1382 K9 w hR hi hl hcR hsR kk)
    | 20, _, hn9 => exact lv_tableIn (off := 1406) (tgt := 1450) hx hb dL_law_44 h1 h2 (by rw [hn9]; rfl) (by decide) (lw_c1450 K9 w hR hi hl hcR hsR kk)
    | 21, _, hn9 => exact lv_tableIn (off := 1447) (tgt := 1491) hx hb dL_law_44 h1 h2 (by rw [hn9]; rfl) (by decide) (lw_c1491 K9 w hR hi hl hcR hsR kk)
    | 22, _, hn9 => exact lv_tableIn (off := 1527) (tgt := 1571) hx hb dL_law_44 h1 h2 (by rw [hn9]; rfl) (by decide) (lw_c1571 K9 w hR hi hl hcR hsR kk)
    | 23, _, hn9 => exact lv_tableIn (off := 1571) (tgt := 1615) hx hb dL_law_44 h1 h2 (by rw [hn9]; rfl) (by decide) (lw_c1615 K9 w hR hi hl hcR hsR kk)
    | 24, _, hn9 => exact lv_tableIn (off := 1639) (tgt := 1683) hx hb dL_law_44 h1 h2 (by rw [hn9]; rfl) (by decide) (lw_c1683 K9 w hR hi hl hcR hsR kk)
    | 25, _, hn9 => exact lv_tableIn (off := 1707) (tgt := 1751) hx hb dL_law_44 h1 h2 (by rw [hn9]; rfl) (by decide) (lw_c1751 K9 w hR hi hl hcR hsR kk)
    | 26, _, hn9 => exact lv_tableIn (off := 1751) (tgt := 1795) hx hb dL_law_44 h1 h2 (by rw [hn9]; rfl) (by decide) (lw_c1795 K9 w hR hi hl hcR hsR kk)
    | 27, _, hn9 => exact lv_tableIn (off := 1795) (tgt := 1839) hx hb dL_law_44 h1 h2 (by rw [hn9]; rfl) (by decide) (lw_c1839 K9 w hR hi hl hcR hsR kk)
    | 28, _, hn9 => exact lv_tableIn (off := 1851) (tgt := 1895) hx hb dL_law_44 h1 h2 (by rw [hn9]; rfl) (by decide) (lw_c1895 K9 w hR hi hl hcR hsR kk)
    | 29, _, hn9 => exact lv_tableIn (off := 1907) (tgt := 1951) hx hb dL_law_44 h1 h2 (by rw [hn9]; rfl) (by decide) (lw_c1951 K9 w hR hi hl hcR hsR kk)
    | 30, _, hn9 => exact lv_tableIn (off := 1963) (tgt := 2007) hx hb dL_law_44 h1 h2 (by rw [hn9]; rfl) (by decide) (lw_c2007 K9 w hR hi hl hcR hsR kk)
    | 31, _, hn9 => exact lv_tableIn (off := 2031) (tgt := 2075) hx hb dL_law_44 h1 h2 (by rw [hn9]; rfl) (by decide) (lw_c2075 K9 w hR hi hl hcR hsR kk)
    | 32, _, hn9 => exact lv_tableIn (off := 2127) (tgt := 2171) hx hb dL_law_44 h1 h2 (by rw [hn9]; rfl) (by decide) (lw_c2171 K9 w hR hi hl hcR hsR kk)
    | 33, _, hn9 => exact lv_tableIn (off := 2195) (tgt := 2239) hx hb dL_law_44 h1 h2 (by rw [hn9]; rfl) (by decide) (lw_c2239 K9 w hR hi hl hcR hsR kk)
    | 34, _, hn9 => exact lv_tableIn (off := 2239) (tgt := 2283) hx hb dL_law_44 h1 h2 (by rw [hn9]; rfl) (by decide) (lw_c2283 K9 w hR hi hl hcR hsR kk)
    | 35, _, hn9 => exact lv_tableIn (off := 2252) (tgt := 2296) hx hb dL_law_44 h1 h2 (by rw [hn9]; rfl) (by decide) (lw_c2296 K9 w hR hi hl hcR hsR kk)
    | k + 36, hk, _ => exact absurd hk (by omega)
theorem lw_sub4 {L : Nat} (hL : L ≤ 2048) : (nI L - nI 4).toInt = (L : Int) - 4 := by
  rcases Nat.lt_or_ge L 4 with h | h
  · match L, h with
    | 0, _ => decide
    | 1, _ => decide
    | 2, _ => decide
    | 3, _ => decide
    | k + 4, h => exact absurd h (by omega)
  · obtain ⟨k, rfl⟩ : ∃ k, L = k + 4 := ⟨L - 4, by omega⟩
    rw [← nI_add, Int32.add_sub_cancel, nI_toInt (by omega)]
    omega
theorem lw_loop (K : lw_C p l R s m args c D Y ty A L b xs) (hRc : R.cells = 603072) (hRs : R.slots = 7186538)
    (fin : ∀ (H : Heap) (locs : List Loc) (ls : Array Slot) (cells slots : Nat) (M : JM), JW D Y ty ad A s.heap M H locs → cells ≤ 603072 → slots ≤ 7186538 → W p l e R s m args below meth c H locs cells slots Q (F0 m 2346 ls [])) :
    ∀ (d i : Nat) (H : Heap) (locs : List Loc) (ls : Array Slot) (cells slots : Nat) (M : JM), i + d = 513 → 4 * i ≤ L + 3 → cells ≤ 1000 + 4 * i → slots ≤ 100000 + 24 * i → JW D Y ty ad A s.heap M H locs → RLL M → lv_has ls 9 (lw_ls ad b i) → W p l e R s m args below meth c H locs cells slots Q (F0 m 28 ls []) := by
  have K9 := K
  obtain ⟨jc, jx, hA, ⟨hX, hbl, hbA, hL⟩, -⟩ := K
  have hx := jc.1
  have hb := jc.2.1
  intro d
  induction d with
  | zero => intro i H locs ls cells slots M hid h4; exact absurd h4 (by omega)
  | succ d ih =>
    intro i H locs ls cells slots M hid h4 hc hs w hR hl
    refine lv_iload hx hb dL_law_28 (lv_at hl 5 rfl) ?_
    refine lv_aload_n hx hb dL_law_30 rfl (lv_at hl 0 rfl) ?_
    refine va_slen hx hb hX hbl hbA w.2.2 dL_law_31 ?_
    refine lv_iconst (v := nI 4) hx hb dL_law_32 (by decide) ?_
    refine lv_isub hx hb dL_law_33 ?_
    have e1 : (nI (4 * i)).toInt = ((4 * i : Nat) : Int) := nI_toInt (by omega)
    have e2 : (Int32.ofNat L - nI 4).toInt = (L : Int) - 4 := lw_sub4 hL
    refine lv_icmp_gt (tgt := 2346) hx hb dL_law_34 (by decide) (fun _ => fin H locs ls cells slots M w (by omega) (by omega)) (fun c1 => ?_)
    have hi : 4 * i + 4 ≤ L := by
      rw [Int32.lt_iff_toInt_lt, e1, e2] at c1
      omega
    refine lw_body K9 w hR hi hl (by omega) (by omega) (fun H1 locs1 ls1 cells1 slots1 M1 w1 hR1 hl1 hc1 hs1 => ?_)
    refine lv_iinc (v := nI (4 * (i + 1))) (lv' := (5, .int (nI (4 * (i + 1)))) :: [(0, .ref b), (1, .ref (ad 0)), (2, .ref (ad 140)), (3, .ref (ad 174)), (4, .ref (ad 175))]) hx hb dL_law_2340 hl1 (k := 5) rfl (by rw [show Int32.ofInt 4 = nI 4 from rfl, nI_add]; rfl) (by decide) rfl (fun ls2 hl2 => ?_)
    refine lv_goto (tgt := 28) hx hb dL_law_2343 (by decide) ?_
    exact ih (i + 1) H1 locs1 ls2 cells1 slots1 M1 (by omega) (by omega) (by omega) (by omega) w1 hR1 (lv_sub hl2 [1, 2, 3, 4, 5, 0] rfl)
end LWX

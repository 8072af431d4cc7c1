/-! ===== the law: its cases, 3 ===== -/
section LWX
variable {p : Program} {l : Launch} {e : Env} {R : Room} {s : State} {m : MethodId} {args : Array Value} {below : List Frame} {meth : Method} {c : Code} {H : Heap} {locs : List Loc} {cells slots : Nat} {Q : State → Prop}
variable {ls : Array Slot} {D : va_G} {Y : JY} {ty : Nat → ClassId} {ad : Nat → Nat} {A : Nat → Prop} {M : JM} {L b i : Nat} {xs : Nat → Int32}
theorem lw_c1683 (K : lw_C p l R s m args c D Y ty A L b xs) (w : JW D Y ty ad A s.heap M H locs) (hR : RLL M) (hi : 4 * i + 4 ≤ L) (hl : lv_has ls 9 (lw_ls ad b i)) (hcR : cells + 4 ≤ R.cells) (hsR : slots + 24 ≤ R.slots) (kk : lw_K p l e R s m args below meth c cells slots Q D Y ty ad A b i) : W p l e R s m args below meth c H locs cells slots Q (F0 m 1683 ls []) := by
  have K9 := K
  obtain ⟨jc, jx, hA, -, hYH, ⟨k9, k10, k104, k105⟩, hl9, hRf, hRl⟩ := K
  have hx := jc.1
  have hb := jc.2.1
  have hok := jc.2.2.2.2.2.2
  obtain ⟨k, M1, bv, M2, e1, e2, h0, hv, hR2⟩ := r_resolve hYH hR (lw_x xs i 1) (lw_x xs i 2)
  refine lv_aload_n hx hb dL_law_1683 rfl (lv_at hl 1 rfl) ?_
  refine lw_arg 1 K9 w hi (by decide) (by decide) (lv_at hl 0 rfl) (lv_at hl 5 rfl) dL_law_1684 dL_law_1685 dL_law_1687 dL_law_1688 dL_law_1689 ?_
  refine lw_arg 2 K9 w hi (by decide) (by decide) (lv_at hl 0 rfl) (lv_at hl 5 rfl) dL_law_1690 dL_law_1691 dL_law_1693 dL_law_1694 dL_law_1695 ?_
  refine lv_aload_n hx hb dL_law_1696 rfl (lv_at hl 3 rfl) ?_
  refine jw_call (r := k) (M' := M1) [.ref (ad 0), .int (lw_x xs i 1), .int (lw_x xs i 2), .ref (ad 174)] [] jc jx w hA (c_L_resolve hl9 hok k9 k104 e1) sd_W_220 rfl hl.1 (lw_hR hRf hRl rfl rfl (by omega) (by omega)) (Nat.le_of_ble_eq_true rfl) dL_law_1697 (fun H1 L1 w1 => ?_)
  refine lv_istore (lv' := (6, .int k) :: lw_ls ad b i) hx hb dL_law_1700 hl (by decide) rfl (fun ls hl => ?_)
  refine lv_aload_n hx hb dL_law_1702 rfl (lv_at hl 3 rfl) ?_
  refine lw_arg 1 K9 w1 hi (by decide) (by decide) (lv_at hl 1 rfl) (lv_at hl 6 rfl) dL_law_1703 dL_law_1704 dL_law_1706 dL_law_1707 dL_law_1708 ?_
  refine lw_arg 2 K9 w1 hi (by decide) (by decide) (lv_at hl 1 rfl) (lv_at hl 6 rfl) dL_law_1709 dL_law_1710 dL_law_1712 dL_law_1713 dL_law_1714 ?_
  refine jc_vi (r := bv) (M' := M2) (o := 140) (ci := 10) [.int (lw_x xs i 1), .int (lw_x xs i 2)] [] jc w1 hA k10 (by decide) rfl (c_X10_resolve hok k10 e2) sd_W_222 rfl hl.1 (lw_hR hRf hRl rfl rfl (by omega) (by omega)) (Nat.le_of_ble_eq_true rfl) dL_law_1715 (fun H2 L2 w2 => ?_)
  refine lv_istore (lv' := (7, .int bv) :: (6, .int k) :: lw_ls ad b i) hx hb dL_law_1718 hl (by decide) rfl (fun ls hl => ?_)
  exact lw_tail K9 w2 hR2 h0 hv hl (Nat.add_le_add_left (by decide) _) (Nat.add_le_add_left (by decide) _) (by omega) (by omega) dL_law_1720 dL_law_1721 dL_law_1724 dL_law_1726 dL_law_1731 dL_law_1733 dL_law_1736 dL_law_1737 dL_law_1738 dL_law_1739 dL_law_1741 dL_law_1742 dL_law_1743 dL_law_1748 (by decide) kk
theorem lw_c1751 (K : lw_C p l R s m args c D Y ty A L b xs) (w : JW D Y ty ad A s.heap M H locs) (hR : RLL M) (hi : 4 * i + 4 ≤ L) (hl : lv_has ls 9 (lw_ls ad b i)) (hcR : cells + 4 ≤ R.cells) (hsR : slots + 24 ≤ R.slots) (kk : lw_K p l e R s m args below meth c cells slots Q D Y ty ad A b i) : W p l e R s m args below meth c H locs cells slots Q (F0 m 1751 ls []) := by
  have K9 := K
  obtain ⟨jc, jx, hA, -, hYH, ⟨k9, k10, k104, k105⟩, hl9, hRf, hRl⟩ := K
  have hx := jc.1
  have hb := jc.2.1
  have hok := jc.2.2.2.2.2.2
  obtain ⟨k, M1, bv, M2, e1, e2, h0, hv, hR2⟩ := r_unresolved hYH hR
  refine lv_aload_n hx hb dL_law_1751 rfl (lv_at hl 1 rfl) ?_
  refine lv_aload_n hx hb dL_law_1752 rfl (lv_at hl 3 rfl) ?_
  refine jw_call (r := k) (M' := M1) [.ref (ad 0), .ref (ad 174)] [] jc jx w hA (c_L_unresolved hl9 hok k9 k104 e1) sd_W_223 rfl hl.1 (lw_hR hRf hRl rfl rfl (by omega) (by omega)) (Nat.le_of_ble_eq_true rfl) dL_law_1753 (fun H1 L1 w1 => ?_)
  refine lv_istore (lv' := (6, .int k) :: lw_ls ad b i) hx hb dL_law_1756 hl (by decide) rfl (fun ls hl => ?_)
  refine lv_aload_n hx hb dL_law_1758 rfl (lv_at hl 3 rfl) ?_
  refine jc_vi (r := bv) (M' := M2) (o := 140) (ci := 10) [] [] jc w1 hA k10 (by decide) rfl (c_X10_unresolved hok k10 e2) sd_W_225 rfl hl.1 (lw_hR hRf hRl rfl rfl (by omega) (by omega)) (Nat.le_of_ble_eq_true rfl) dL_law_1759 (fun H2 L2 w2 => ?_)
  refine lv_istore (lv' := (7, .int bv) :: (6, .int k) :: lw_ls ad b i) hx hb dL_law_1762 hl (by decide) rfl (fun ls hl => ?_)
  exact lw_tail K9 w2 hR2 h0 hv hl (Nat.add_le_add_left (by decide) _) (Nat.add_le_add_left (by decide) _) (by omega) (by omega) dL_law_1764 dL_law_1765 dL_law_1768 dL_law_1770 dL_law_1775 dL_law_1777 dL_law_1780 dL_law_1781 dL_law_1782 dL_law_1783 dL_law_1785 dL_law_1786 dL_law_1787 dL_law_1792 (by decide) kk
theorem lw_c1795 (K : lw_C p l R s m args c D Y ty A L b xs) (w : JW D Y ty ad A s.heap M H locs) (hR : RLL M) (hi : 4 * i + 4 ≤ L) (hl : lv_has ls 9 (lw_ls ad b i)) (hcR : cells + 4 ≤ R.cells) (hsR : slots + 24 ≤ R.slots) (kk : lw_K p l e R s m args below meth c cells slots Q D Y ty ad A b i) : W p l e R s m args below meth c H locs cells slots Q (F0 m 1795 ls []) := by
  have K9 := K
  obtain ⟨jc, jx, hA, -, hYH, ⟨k9, k10, k104, k105⟩, hl9, hRf, hRl⟩ := K
  have hx := jc.1
  have hb := jc.2.1
  have hok := jc.2.2.2.2.2.2
  obtain ⟨k, M1, bv, M2, e1, e2, h0, hv, hR2⟩ := r_mergedLength hYH hR
  refine lv_aload_n hx hb dL_law_1795 rfl (lv_at hl 1 rfl) ?_
  refine lv_aload_n hx hb dL_law_1796 rfl (lv_at hl 3 rfl) ?_
  refine jw_call (r := k) (M' := M1) [.ref (ad 0), .ref (ad 174)] [] jc jx w hA (c_L_mergedLength hl9 hok k9 k104 e1) sd_W_226 rfl hl.1 (lw_hR hRf hRl rfl rfl (by omega) (by omega)) (Nat.le_of_ble_eq_true rfl) dL_law_1797 (fun H1 L1 w1 => ?_)
  refine lv_istore (lv' := (6, .int k) :: lw_ls ad b i) hx hb dL_law_1800 hl (by decide) rfl (fun ls hl => ?_)
  refine lv_aload_n hx hb dL_law_1802 rfl (lv_at hl 3 rfl) ?_
  refine jc_vi (r := bv) (M' := M2) (o := 140) (ci := 10) [] [] jc w1 hA k10 (by decide) rfl (c_X10_mergedLength hok k10 e2) sd_W_228 rfl hl.1 (lw_hR hRf hRl rfl rfl (by omega) (by omega)) (Nat.le_of_ble_eq_true rfl) dL_law_1803 (fun H2 L2 w2 => ?_)
  refine lv_istore (lv' := (7, .int bv) :: (6, .int k) :: lw_ls ad b i) hx hb dL_law_1806 hl (by decide) rfl (fun ls hl => ?_)
  exact lw_tail K9 w2 hR2 h0 hv hl (Nat.add_le_add_left (by decide) _) (Nat.add_le_add_left (by decide) _) (by omega) (by omega) dL_law_1808 dL_law_1809 dL_law_1812 dL_law_1814 dL_law_1819 dL_law_1821 dL_law_1824 dL_law_1825 dL_law_1826 dL_law_1827 dL_law_1829 dL_law_1830 dL_law_1831 dL_law_1836 (by decide) kk
theorem lw_c1839 (K : lw_C p l R s m args c D Y ty A L b xs) (w : JW D Y ty ad A s.heap M H locs) (hR : RLL M) (hi : 4 * i + 4 ≤ L) (hl : lv_has ls 9 (lw_ls ad b i)) (hcR : cells + 4 ≤ R.cells) (hsR : slots + 24 ≤ R.slots) (kk : lw_K p l e R s m args below meth c cells slots Q D Y ty ad A b i) : W p l e R s m args below meth c H locs cells slots Q (F0 m 1839 ls []) := by
  have K9 := K
  obtain ⟨jc, jx, hA, -, hYH, ⟨k9, k10, k104, k105⟩, hl9, hRf, hRl⟩ := K
  have hx := jc.1
  have hb := jc.2.1
  have hok := jc.2.2.2.2.2.2
  obtain ⟨k, M1, bv, M2, e1, e2, h0, hv, hR2⟩ := r_merged hYH hR (lw_x xs i 1)
  refine lv_aload_n hx hb dL_law_1839 rfl (lv_at hl 1 rfl) ?_
  refine lw_arg 1 K9 w hi (by decide) (by decide) (lv_at hl 0 rfl) (lv_at hl 5 rfl) dL_law_1840 dL_law_1841 dL_law_1843 dL_law_1844 dL_law_1845 ?_
  refine lv_aload_n hx hb dL_law_1846 rfl (lv_at hl 3 rfl) ?_
  refine jw_call (r := k) (M' := M1) [.ref (ad 0), .int (lw_x xs i 1), .ref (ad 174)] [] jc jx w hA (c_L_merged hl9 hok k9 k104 e1) sd_W_229 rfl hl.1 (lw_hR hRf hRl rfl rfl (by omega) (by omega)) (Nat.le_of_ble_eq_true rfl) dL_law_1847 (fun H1 L1 w1 => ?_)
  refine lv_istore (lv' := (6, .int k) :: lw_ls ad b i) hx hb dL_law_1850 hl (by decide) rfl (fun ls hl => ?_)
  refine lv_aload_n hx hb dL_law_1852 rfl (lv_at hl 3 rfl) ?_
  refine lw_arg 1 K9 w1 hi (by decide) (by decide) (lv_at hl 1 rfl) (lv_at hl 6 rfl) dL_law_1853 dL_law_1854 dL_law_1856 dL_law_1857 dL_law_1858 ?_
  refine jc_vi (r := bv) (M' := M2) (o := 140) (ci := 10) [.int (lw_x xs i 1)] [] jc w1 hA k10 (by decide) rfl (c_X10_merged hok k10 e2) sd_W_231 rfl hl.1 (lw_hR hRf hRl rfl rfl (by omega) (by omega)) (Nat.le_of_ble_eq_true rfl) dL_law_1859 (fun H2 L2 w2 => ?_)
  refine lv_istore (lv' := (7, .int bv) :: (6, .int k) :: lw_ls ad b i) hx hb dL_law_1862 hl (by decide) rfl (fun ls hl => ?_)
  exact lw_tail K9 w2 hR2 h0 hv hl (Nat.add_le_add_left (by decide) _) (Nat.add_le_add_left (by decide) _) (by omega) (by omega) dL_law_1864 dL_law_1865 dL_law_1868 dL_law_1870 dL_law_1875 dL_law_1877 dL_law_1880 dL_law_1881 dL_law_1882 dL_law_1883 dL_law_1885 dL_law_1886 dL_law_1887 dL_law_1892 (by decide) kk
theorem lw_c1895 (K : lw_C p l R s m args c D Y ty A L b xs) (w : JW D Y ty ad A s.heap M H locs) (hR : RLL M) (hi : 4 * i + 4 ≤ L) (hl : lv_has ls 9 (lw_ls ad b i)) (hcR : cells + 4 ≤ R.cells) (hsR : slots + 24 ≤ R.slots) (kk : lw_K p l e R s m args below meth c cells slots Q D Y ty ad A b i) : W p l e R s m args below meth c H locs cells slots Q (F0 m 1895 ls []) := by
  have K9 := K
  obtain ⟨jc, jx, hA, -, hYH, ⟨k9, k10, k104, k105⟩, hl9, hRf, hRl⟩ := K
  have hx := jc.1
  have hb := jc.2.1
  have hok := jc.2.2.2.2.2.2
  obtain ⟨k, M1, bv, M2, e1, e2, h0, hv, hR2⟩ := r_accept hYH hR (lw_x xs i 1)
  refine lv_aload_n hx hb dL_law_1895 rfl (lv_at hl 1 rfl) ?_
  refine lw_arg 1 K9 w hi (by decide) (by decide) (lv_at hl 0 rfl) (lv_at hl 5 rfl) dL_law_1896 dL_law_1897 dL_law_1899 dL_law_1900 dL_law_1901 ?_
  refine lv_aload_n hx hb dL_law_1902 rfl (lv_at hl 3 rfl) ?_
  refine jw_call (r := k) (M' := M1) [.ref (ad 0), .int (lw_x xs i 1), .ref (ad 174)] [] jc jx w hA (c_L_accept hl9 hok k9 k104 e1) sd_W_232 rfl hl.1 (lw_hR hRf hRl rfl rfl (by omega) (by omega)) (Nat.le_of_ble_eq_true rfl) dL_law_1903 (fun H1 L1 w1 => ?_)
  refine lv_istore (lv' := (6, .int k) :: lw_ls ad b i) hx hb dL_law_1906 hl (by decide) rfl (fun ls hl => ?_)
  refine lv_aload_n hx hb dL_law_1908 rfl (lv_at hl 3 rfl) ?_
  refine lw_arg 1 K9 w1 hi (by decide) (by decide) (lv_at hl 1 rfl) (lv_at hl 6 rfl) dL_law_1909 dL_law_1910 dL_law_1912 dL_law_1913 dL_law_1914 ?_
  refine jc_vi (r := bv) (M' := M2) (o := 140) (ci := 10) [.int (lw_x xs i 1)] [] jc w1 hA k10 (by decide) rfl (c_X10_accept hok k10 e2) sd_W_234 rfl hl.1 (lw_hR hRf hRl rfl rfl (by omega) (by omega)) (Nat.le_of_ble_eq_true rfl) dL_law_1915 (fun H2 L2 w2 => ?_)
  refine lv_istore (lv' := (7, .int bv) :: (6, .int k) :: lw_ls ad b i) hx hb dL_law_1918 hl (by decide) rfl (fun ls hl => ?_)
  exact lw_tail K9 w2 hR2 h0 hv hl (Nat.add_le_add_left (by decide) _) (Nat.add_le_add_left (by decide) _) (by omega) (by omega) dL_law_1920 dL_law_1921 dL_law_1924 dL_law_1926 dL_law_1931 dL_law_1933 dL_law_1936 dL_law_1937 dL_law_1938 dL_law_1939 dL_law_1941 dL_law_1942 dL_law_1943 dL_law_1948 (by decide) kk
theorem lw_c1951 (K : lw_C p l R s m args c D Y ty A L b xs) (w : JW D Y ty ad A s.heap M H locs) (hR : RLL M) (hi : 4 * i + 4 ≤ L) (hl : lv_has ls 9 (lw_ls ad b i)) (hcR : cells + 4 ≤ R.cells) (hsR : slots + 24 ≤ R.slots) (kk : lw_K p l e R s m args below meth c cells slots Q D Y ty ad A b i) : W p l e R s m args below meth c H locs cells slots Q (F0 m 1951 ls []) := by
  have K9 := K
  obtain ⟨jc, jx, hA, -, hYH, ⟨k9, k10, k104, k105⟩, hl9, hRf, hRl⟩ := K
  have hx := jc.1
  have hb := jc.2.1
  have hok := jc.2.2.2.2.2.2
  obtain ⟨k, M1, bv, M2, e1, e2, h0, hv, hR2⟩ := r_makePatch hYH hR (lw_x xs i 1)
  refine lv_aload_n hx hb dL_law_1951 rfl (lv_at hl 1 rfl) ?_
  refine lw_arg 1 K9 w hi (by decide) (by decide) (lv_at hl 0 rfl) (lv_at hl 5 rfl) dL_law_1952 dL_law_1953 dL_law_1955 dL_law_1956 dL_law_1957 ?_
  refine lv_aload_n hx hb dL_law_1958 rfl (lv_at hl 3 rfl) ?_
  refine jw_call (r := k) (M' := M1) [.ref (ad 0), .int (lw_x xs i 1), .ref (ad 174)] [] jc jx w hA (c_L_makePatch hl9 hok k9 k104 e1) sd_W_235 rfl hl.1 (lw_hR hRf hRl rfl rfl (by omega) (by omega)) (Nat.le_of_ble_eq_true rfl) dL_law_1959 (fun H1 L1 w1 => ?_)
  refine lv_istore (lv' := (6, .int k) :: lw_ls ad b i) hx hb dL_law_1962 hl (by decide) rfl (fun ls hl => ?_)
  refine lv_aload_n hx hb dL_law_1964 rfl (lv_at hl 3 rfl) ?_
  refine lw_arg 1 K9 w1 hi (by decide) (by decide) (lv_at hl 1 rfl) (lv_at hl 6 rfl) dL_law_1965 dL_law_1966 dL_law_1968 dL_law_1969 dL_law_1970 ?_
  refine jc_vi (r := bv) (M' := M2) (o := 140) (ci := 10) [.int (lw_x xs i 1)] [] jc w1 hA k10 (by decide) rfl (c_X10_makePatch hok k10 e2) sd_W_237 rfl hl.1 (lw_hR hRf hRl rfl rfl (by omega) (by omega)) (Nat.le_of_ble_eq_true rfl) dL_law_1971 (fun H2 L2 w2 => ?_)
  refine lv_istore (lv' := (7, .int bv) :: (6, .int k) :: lw_ls ad b i) hx hb dL_law_1974 hl (by decide) rfl (fun ls hl => ?_)
  exact lw_tail K9 w2 hR2 h0 hv hl (Nat.add_le_add_left (by decide) _) (Nat.add_le_add_left (by decide) _) (by omega) (by omega) dL_law_1976 dL_law_1977 dL_law_1980 dL_law_1982 dL_law_1987 dL_law_1989 dL_law_1992 dL_law_1993 dL_law_1994 dL_law_1995 dL_law_1997 dL_law_1998 dL_law_1999 dL_law_2004 (by decide) kk
theorem lw_c2007 (K : lw_C p l R s m args c D Y ty A L b xs) (w : JW D Y ty ad A s.heap M H locs) (hR : RLL M) (hi : 4 * i + 4 ≤ L) (hl : lv_has ls 9 (lw_ls ad b i)) (hcR : cells + 4 ≤ R.cells) (hsR : slots + 24 ≤ R.slots) (kk : lw_K p l e R s m args below meth c cells slots Q D Y ty ad A b i) : W p l e R s m args below meth c H locs cells slots Q (F0 m 2007 ls []) := by
  have K9 := K
  obtain ⟨jc, jx, hA, -, hYH, ⟨k9, k10, k104, k105⟩, hl9, hRf, hRl⟩ := K
  have hx := jc.1
  have hb := jc.2.1
  have hok := jc.2.2.2.2.2.2
  obtain ⟨k, M1, bv, M2, e1, e2, h0, hv, hR2⟩ := r_hunk hYH hR (lw_x xs i 1) (lw_x xs i 2)
  refine lv_aload_n hx hb dL_law_2007 rfl (lv_at hl 1 rfl) ?_
  refine lw_arg 1 K9 w hi (by decide) (by decide) (lv_at hl 0 rfl) (lv_at hl 5 rfl) dL_law_2008 dL_law_2009 dL_law_2011 dL_law_2012 dL_law_2013 ?_
  refine lw_arg 2 K9 w hi (by decide) (by decide) (lv_at hl 0 rfl) (lv_at hl 5 rfl) dL_law_2014 dL_law_2015 dL_law_2017 dL_law_2018 dL_law_2019 ?_
  refine lv_aload_n hx hb dL_law_2020 rfl (lv_at hl 3 rfl) ?_
  refine jw_call (r := k) (M' := M1) [.ref (ad 0), .int (lw_x xs i 1), .int (lw_x xs i 2), .ref (ad 174)] [] jc jx w hA (c_L_hunk hl9 hok k9 k104 e1) sd_W_238 rfl hl.1 (lw_hR hRf hRl rfl rfl (by omega) (by omega)) (Nat.le_of_ble_eq_true rfl) dL_law_2021 (fun H1 L1 w1 => ?_)
  refine lv_istore (lv' := (6, .int k) :: lw_ls ad b i) hx hb dL_law_2024 hl (by decide) rfl (fun ls hl => ?_)
  refine lv_aload_n hx hb dL_law_2026 rfl (lv_at hl 3 rfl) ?_
  refine lw_arg 1 K9 w1 hi (by decide) (by decide) (lv_at hl 1 rfl) (lv_at hl 6 rfl) dL_law_2027 dL_law_2028 dL_law_2030 dL_law_2031 dL_law_2032 ?_
  refine lw_arg 2 K9 w1 hi (by decide) (by decide) (lv_at hl 1 rfl) (lv_at hl 6 rfl) dL_law_2033 dL_law_2034 dL_law_2036 dL_law_2037 dL_law_2038 ?_
  refine jc_vi (r := bv) (M' := M2) (o := 140) (ci := 10) [.int (lw_x xs i 1), .int (lw_x xs i 2)] [] jc w1 hA k10 (by decide) rfl (c_X10_hunk hok k10 e2) sd_W_240 rfl hl.1 (lw_hR hRf hRl rfl rfl (by omega) (by omega)) (Nat.le_of_ble_eq_true rfl) dL_law_2039 (fun H2 L2 w2 => ?_)
  refine lv_istore (lv' := (7, .int bv) :: (6, .int k) :: lw_ls ad b i) hx hb dL_law_2042 hl (by decide) rfl (fun ls hl => ?_)
  exact lw_tail K9 w2 hR2 h0 hv hl (Nat.add_le_add_left (by decide) _) (Nat.add_le_add_left (by decide) _) (by omega) (by omega) dL_law_2044 dL_law_2045 dL_law_2048 dL_law_2050 dL_law_2055 dL_law_2057 dL_law_2060 dL_law_2061 dL_law_2062 dL_law_2063 dL_law_2065 dL_law_2066 dL_law_2067 dL_law_2072 (by decide) kk
theorem lw_c2075 (K : lw_C p l R s m args c D Y ty A L b xs) (w : JW D Y ty ad A s.heap M H locs) (hR : RLL M) (hi : 4 * i + 4 ≤ L) (hl : lv_has ls 9 (lw_ls ad b i)) (hcR : cells + 4 ≤ R.cells) (hsR : slots + 24 ≤ R.slots) (kk : lw_K p l e R s m args below meth c cells slots Q D Y ty ad A b i) : W p l e R s m args below meth c H locs cells slots Q (F0 m 2075 ls []) := by
  have K9 := K
  obtain ⟨jc, jx, hA, -, hYH, ⟨k9, k10, k104, k105⟩, hl9, hRf, hRl⟩ := K
  have hx := jc.1
  have hb := jc.2.1
  have hok := jc.2.2.2.2.2.2
  obtain ⟨k, M1, bv, M2, e1, e2, h0, hv, hR2⟩ := r_apply hYH hR (lw_x xs i 1) (lw_x xs i 2) (j_z (lw_x xs i 3))
  refine lv_aload_n hx hb dL_law_2075 rfl (lv_at hl 1 rfl) ?_
  refine lw_arg 1 K9 w hi (by decide) (by decide) (lv_at hl 0 rfl) (lv_at hl 5 rfl) dL_law_2076 dL_law_2077 dL_law_2079 dL_law_2080 dL_law_2081 ?_
  refine lw_arg 2 K9 w hi (by decide) (by decide) (lv_at hl 0 rfl) (lv_at hl 5 rfl) dL_law_2082 dL_law_2083 dL_law_2085 dL_law_2086 dL_law_2087 ?_
  refine lw_arg 3 K9 w hi (by decide) (by decide) (lv_at hl 0 rfl) (lv_at hl 5 rfl) dL_law_2088 dL_law_2089 dL_law_2091 dL_law_2092 dL_law_2093 ?_
  refine lw_tern hx hb dL_law_2094 dL_law_2097 dL_law_2098 dL_law_2101 ?_
  refine lv_aload_n hx hb dL_law_2102 rfl (lv_at hl 3 rfl) ?_
  refine jw_call (r := k) (M' := M1) [.ref (ad 0), .int (lw_x xs i 1), .int (lw_x xs i 2), .int (j_z (lw_x xs i 3)), .ref (ad 174)] [] jc jx w hA (c_L_apply hl9 hok k9 k104 e1) sd_W_241 rfl hl.1 (lw_hR hRf hRl rfl rfl (by omega) (by omega)) (Nat.le_of_ble_eq_true rfl) dL_law_2103 (fun H1 L1 w1 => ?_)
  refine lv_istore (lv' := (6, .int k) :: lw_ls ad b i) hx hb dL_law_2106 hl (by decide) rfl (fun ls hl => ?_)
  refine lv_aload_n hx hb dL_law_2108 rfl (lv_at hl 3 rfl) ?_
  refine lw_arg 1 K9 w1 hi (by decide) (by decide) (lv_at hl 1 rfl) (lv_at hl 6 rfl) dL_law_2109 dL_law_2110 dL_law_2112 dL_law_2113 dL_law_2114 ?_
  refine lw_arg 2 K9 w1 hi (by decide) (by decide) (lv_at hl 1 rfl) (lv_at hl 6 rfl) dL_law_2115 dL_law_2116 dL_law_2118 dL_law_2119 dL_law_2120 ?_
  refine lw_arg 3 K9 w1 hi (by decide) (by decide) (lv_at hl 1 rfl) (lv_at hl 6 rfl) dL_law_2121 dL_law_2122 dL_law_2124 dL_law_2125 dL_law_2126 ?_
  refine lw_tern hx hb dL_law_2127 dL_law_2130 dL_law_2131 dL_law_2134 ?_
  refine jc_vi (r := bv) (M' := M2) (o := 140) (ci := 10) [.int (lw_x xs i 1), .int (lw_x xs i 2), .int (j_z (lw_x xs i 3))] [] jc w1 hA k10 (by decide) rfl (c_X10_apply hok k10 e2) sd_W_244 rfl hl.1 (lw_hR hRf hRl rfl rfl (by omega) (by omega)) (Nat.le_of_ble_eq_true rfl) dL_law_2135 (fun H2 L2 w2 => ?_)
  refine lv_istore (lv' := (7, .int bv) :: (6, .int k) :: lw_ls ad b i) hx hb dL_law_2138 hl (by decide) rfl (fun ls hl => ?_)
  exact lw_tail K9 w2 hR2 h0 hv hl (Nat.add_le_add_left (by decide) _) (Nat.add_le_add_left (by decide) _) (by omega) (by omega) dL_law_2140 dL_law_2141 dL_law_2144 dL_law_2146 dL_law_2151 dL_law_2153 dL_law_2156 dL_law_2157 dL_law_2158 dL_law_2159 dL_law_2161 dL_law_2162 dL_law_2163 dL_law_2168 (by decide) kk
theorem lw_c2171 (K : lw_C p l R s m args c D Y ty A L b xs) (w : JW D Y ty ad A s.heap M H locs) (hR : RLL M) (hi : 4 * i + 4 ≤ L) (hl : lv_has ls 9 (lw_ls ad b i)) (hcR : cells + 4 ≤ R.cells) (hsR : slots + 24 ≤ R.slots) (kk : lw_K p l e R s m args below meth c cells slots Q D Y ty ad A b i) : W p l e R s m args below meth c H locs cells slots Q (F0 m 2171 ls []) := by
  have K9 := K
  obtain ⟨jc, jx, hA, -, hYH, ⟨k9, k10, k104, k105⟩, hl9, hRf, hRl⟩ := K
  have hx := jc.1
  have hb := jc.2.1
  have hok := jc.2.2.2.2.2.2
  obtain ⟨k, M1, bv, M2, e1, e2, h0, hv, hR2⟩ := r_outcome hYH hR (lw_x xs i 1) (lw_x xs i 2)
  refine lv_aload_n hx hb dL_law_2171 rfl (lv_at hl 1 rfl) ?_
  refine lw_arg 1 K9 w hi (by decide) (by decide) (lv_at hl 0 rfl) (lv_at hl 5 rfl) dL_law_2172 dL_law_2173 dL_law_2175 dL_law_2176 dL_law_2177 ?_
  refine lw_arg 2 K9 w hi (by decide) (by decide) (lv_at hl 0 rfl) (lv_at hl 5 rfl) dL_law_2178 dL_law_2179 dL_law_2181 dL_law_2182 dL_law_2183 ?_
  refine lv_aload_n hx hb dL_law_2184 rfl (lv_at hl 3 rfl) ?_
  refine jw_call (r := k) (M' := M1) [.ref (ad 0), .int (lw_x xs i 1), .int (lw_x xs i 2), .ref (ad 174)] [] jc jx w hA (c_L_outcome hl9 hok k9 k104 e1) sd_W_245 rfl hl.1 (lw_hR hRf hRl rfl rfl (by omega) (by omega)) (Nat.le_of_ble_eq_true rfl) dL_law_2185 (fun H1 L1 w1 => ?_)
  refine lv_istore (lv' := (6, .int k) :: lw_ls ad b i) hx hb dL_law_2188 hl (by decide) rfl (fun ls hl => ?_)
  refine lv_aload_n hx hb dL_law_2190 rfl (lv_at hl 3 rfl) ?_
  refine lw_arg 1 K9 w1 hi (by decide) (by decide) (lv_at hl 1 rfl) (lv_at hl 6 rfl) dL_law_2191 dL_law_2192 dL_law_2194 dL_law_2195 dL_law_2196 ?_
  refine lw_arg 2 K9 w1 hi (by decide) (by decide) (lv_at hl 1 rfl) (lv_at hl 6 rfl) dL_law_2197 dL_law_2198 dL_law_2200 dL_law_2201 dL_law_2202 ?_
  refine jc_vi (r := bv) (M' := M2) (o := 140) (ci := 10) [.int (lw_x xs i 1), .int (lw_x xs i 2)] [] jc w1 hA k10 (by decide) rfl (c_X10_outcome hok k10 e2) sd_W_247 rfl hl.1 (lw_hR hRf hRl rfl rfl (by omega) (by omega)) (Nat.le_of_ble_eq_true rfl) dL_law_2203 (fun H2 L2 w2 => ?_)
  refine lv_istore (lv' := (7, .int bv) :: (6, .int k) :: lw_ls ad b i) hx hb dL_law_2206 hl (by decide) rfl (fun ls hl => ?_)
  exact lw_tail K9 w2 hR2 h0 hv hl (Nat.add_le_add_left (by decide) _) (Nat.add_le_add_left (by decide) _) (by omega) (by omega) dL_law_2208 dL_law_2209 dL_law_2212 dL_law_2214 dL_law_2219 dL_law_2221 dL_law_2224 dL_law_2225 dL_law_2226 dL_law_2227 dL_law_2229 dL_law_2230 dL_law_2231 dL_law_2236 (by decide) kk
theorem lw_c2239 (K : lw_C p l R s m args c D Y ty A L b xs) (w : JW D Y ty ad A s.heap M H locs) (hR : RLL M) (hi : 4 * i + 4 ≤ L) (hl : lv_has ls 9 (lw_ls ad b i)) (hcR : cells + 4 ≤ R.cells) (hsR : slots + 24 ≤ R.slots) (kk : lw_K p l e R s m args below meth c cells slots Q D Y ty ad A b i) : W p l e R s m args below meth c H locs cells slots Q (F0 m 2239 ls []) := by
  have K9 := K
  obtain ⟨jc, jx, hA, -, hYH, ⟨k9, k10, k104, k105⟩, hl9, hRf, hRl⟩ := K
  have hx := jc.1
  have hb := jc.2.1
  have hok := jc.2.2.2.2.2.2
  obtain ⟨k, M1, bv, M2, e1, e2, h0, hv, hR2⟩ := r_undo hYH hR
  refine lv_aload_n hx hb dL_law_2239 rfl (lv_at hl 1 rfl) ?_
  refine lv_aload_n hx hb dL_law_2240 rfl (lv_at hl 3 rfl) ?_
  refine jw_call (r := k) (M' := M1) [.ref (ad 0), .ref (ad 174)] [] jc jx w hA (c_L_undo hl9 hok k9 k104 e1) sd_W_248 rfl hl.1 (lw_hR hRf hRl rfl rfl (by omega) (by omega)) (Nat.le_of_ble_eq_true rfl) dL_law_2241 (fun H1 L1 w1 => ?_)
  refine lv_istore (lv' := (6, .int k) :: lw_ls ad b i) hx hb dL_law_2244 hl (by decide) rfl (fun ls hl => ?_)
  refine lv_aload_n hx hb dL_law_2246 rfl (lv_at hl 3 rfl) ?_
  refine jc_vi (r := bv) (M' := M2) (o := 140) (ci := 10) [] [] jc w1 hA k10 (by decide) rfl (c_X10_undo hok k10 e2) sd_W_250 rfl hl.1 (lw_hR hRf hRl rfl rfl (by omega) (by omega)) (Nat.le_of_ble_eq_true rfl) dL_law_2247 (fun H2 L2 w2 => ?_)
  refine lv_istore (lv' := (7, .int bv) :: (6, .int k) :: lw_ls ad b i) hx hb dL_law_2250 hl (by decide) rfl (fun ls hl => ?_)
  exact lw_tail K9 w2 hR2 h0 hv hl (Nat.add_le_add_left (by decide) _) (Nat.add_le_add_left (by decide) _) (by omega) (by omega) dL_law_2252 dL_law_2253 dL_law_2256 dL_law_2258 dL_law_2263 dL_law_2265 dL_law_2268 dL_law_2269 dL_law_2270 dL_law_2271 dL_law_2273 dL_law_2274 dL_law_2275 dL_law_2280 (by decide) kk
theorem lw_c2283 (K : lw_C p l R s m args c D Y ty A L b xs) (w : JW D Y ty ad A s.heap M H locs) (hR : RLL M) (hi : 4 * i + 4 ≤ L) (hl : lv_has ls 9 (lw_ls ad b i)) (hcR : cells + 4 ≤ R.cells) (hsR : slots + 24 ≤ R.slots) (kk : lw_K p l e R s m args below meth c cells slots Q D Y ty ad A b i) : W p l e R s m args below meth c H locs cells slots Q (F0 m 2283 ls []) := by
  have K9 := K
  obtain ⟨jc, jx, hA, -, hYH, ⟨k9, k10, k104, k105⟩, hl9, hRf, hRl⟩ := K
  have hx := jc.1
  have hb := jc.2.1
  have hok := jc.2.2.2.2.2.2
  obtain ⟨bv, M1, M2, e1, e2, hR2⟩ := r_save hYH hR
  refine lv_aload_n hx hb dL_law_2283 rfl (lv_at hl 1 rfl) ?_
  refine jc_vi (r := bv) (M' := M1) (o := 0) (ci := 9) [] [] jc w hA k9 (by decide) rfl (c_X9_save hok k9 e1) sd_W_251 rfl hl.1 (lw_hR hRf hRl rfl rfl (by omega) (by omega)) (Nat.le_of_ble_eq_true rfl) dL_law_2284 (fun H1 L1 w1 => ?_)
  refine lv_aload_n hx hb dL_law_2287 rfl (lv_at hl 2 rfl) ?_
  refine jc_vi (r := bv) (M' := M2) (o := 140) (ci := 10) [] [.int bv] jc w1 hA k10 (by decide) rfl (c_X10_save hok k10 e2) sd_W_254 rfl hl.1 (lw_hR hRf hRl rfl rfl (by omega) (by omega)) (Nat.le_of_ble_eq_true rfl) dL_law_2288 (fun H2 L2 w2 => ?_)
  exact lv_icmp_eq (tgt := 2340) hx hb dL_law_2291 (by decide) (fun _ => kk _ _ _ _ _ M2 w2 hR2 hl (Nat.le_add_right _ _) (Nat.le_add_right _ _)) (fun c1 => absurd rfl c1)
theorem lw_c2296 (K : lw_C p l R s m args c D Y ty A L b xs) (w : JW D Y ty ad A s.heap M H locs) (hR : RLL M) (hi : 4 * i + 4 ≤ L) (hl : lv_has ls 9 (lw_ls ad b i)) (hcR : cells + 4 ≤ R.cells) (hsR : slots + 24 ≤ R.slots) (kk : lw_K p l e R s m args below meth c cells slots Q D Y ty ad A b i) : W p l e R s m args below meth c H locs cells slots Q (F0 m 2296 ls []) := by
  have K9 := K
  obtain ⟨jc, jx, hA, -, hYH, ⟨k9, k10, k104, k105⟩, hl9, hRf, hRl⟩ := K
  have hx := jc.1
  have hb := jc.2.1
  have hok := jc.2.2.2.2.2.2
  obtain ⟨k, M1, bv, M2, e1, e2, h0, hv, hR2⟩ := r_restore hYH hR
  refine lv_aload_n hx hb dL_law_2296 rfl (lv_at hl 1 rfl) ?_
  refine lv_aload_n hx hb dL_law_2297 rfl (lv_at hl 3 rfl) ?_
  refine jw_call (r := k) (M' := M1) [.ref (ad 0), .ref (ad 174)] [] jc jx w hA (c_L_restore hl9 hok k9 k104 e1) sd_W_255 rfl hl.1 (lw_hR hRf hRl rfl rfl (by omega) (by omega)) (Nat.le_of_ble_eq_true rfl) dL_law_2298 (fun H1 L1 w1 => ?_)
  refine lv_istore (lv' := (6, .int k) :: lw_ls ad b i) hx hb dL_law_2301 hl (by decide) rfl (fun ls hl => ?_)
  refine lv_aload_n hx hb dL_law_2303 rfl (lv_at hl 3 rfl) ?_
  refine jc_vi (r := bv) (M' := M2) (o := 140) (ci := 10) [] [] jc w1 hA k10 (by decide) rfl (c_X10_restore hok k10 e2) sd_W_257 rfl hl.1 (lw_hR hRf hRl rfl rfl (by omega) (by omega)) (Nat.le_of_ble_eq_true rfl) dL_law_2304 (fun H2 L2 w2 => ?_)
  refine lv_istore (lv' := (7, .int bv) :: (6, .int k) :: lw_ls ad b i) hx hb dL_law_2307 hl (by decide) rfl (fun ls hl => ?_)
  exact lw_tail K9 w2 hR2 h0 hv hl (Nat.add_le_add_left (by decide) _) (Nat.add_le_add_left (by decide) _) (by omega) (by omega) dL_law_2309 dL_law_2310 dL_law_2313 dL_law_2315 dL_law_2320 dL_law_2322 dL_law_2325 dL_law_2326 dL_law_2327 dL_law_2328 dL_law_2330 dL_law_2331 dL_law_2332 dL_law_2337 (by decide) kk
end LWX

/-! ===== constructors: Lines ===== -/
/-- the layout of a Lines of n cells, and of its numbers at the beginning -/
def yt_L (n : Nat) : JY := ([4, 100], fun _ _ => 1, fun o => if o = 1 then n else 0)
def mt_0 : JM := fun _ _ => 0
theorem c_X4_init {D : va_G} {ty : Nat → ClassId} {l : Launch} {a sz n : Nat} (hn : n < 1000000) : JN D ty l yX4_init cX4_init 2 1 12 1 n 4 a sz [.null, .int 0] [.int (nI n)] (yt_L n) mt_0 := by
  refine jn_of (ix := 3) (by decide) rfl (Nat.le_of_ble_eq_true rfl) dX4_init_0 dX4_init_1 wd_3_186 (by decide) (by decide) (fun p e s m below meth c args R Q A hRf hRl hRc hRs hnm jn hA w kr ls hl => ?_)
  have hx := jn.1
  have hb := jn.2.1
  have hl : lv_has ls 2 [(0, .ref a), (1, .int (nI n))] := hl
  have tail : W p l e R s m args below meth c s.heap [] 0 0 Q (F0 m 14 ls [.int (nI n), .ref a]) := by
    refine jn_newi (N := n) jn w hA (nI_pos (by omega)) (nI_clamp (by omega)) hn ⟨by omega, by omega⟩ dX4_init_14 (fun q H1 w1 => ?_)
    have w1' : JNW D A s.heap ((a, .inr (4, [.null, .int 0])) :: [(q, .inl (ty 0, n, .inl (fun _ => 0)))]) H1 [] := w1
    refine jn_putF (C := RX4) (T := TX4) (N := 2) (k := 0) (ci := 4) jn hnm w1' rfl jin_4 tyX4 tyX4_ok nmX4 (by decide) wd_3_187 rfl rfl rfl rfl (by decide) dX4_init_16 (fun H2 locs2 w2 => ?_)
    have w2' : JNW D A s.heap (j_w (yt_L n) ty (fun k => if k = 0 then a else q) mt_0) H2 locs2 := w2
    exact kr _ _ _ _ _ _ (fun k => if k = 0 then a else q) rfl w2' (Nat.zero_add 1) (Nat.zero_add n) dX4_init_19
  refine lv_aload_n hx hb dX4_init_4 rfl (lv_at hl 0 rfl) ?_
  refine lv_iload_n hx hb dX4_init_5 rfl (lv_at hl 1 rfl) ?_
  refine lv_if_le (tgt := 13) hx hb dX4_init_6 (by decide) (fun c1 => ?_) (fun c1 => ?_)
  · have h0 : n = 0 := (nI_le0 (by omega)).mp c1
    subst h0
    refine lv_iconst (v := 0) hx hb dX4_init_13 (by decide) ?_
    exact tail
  · refine lv_iload_n hx hb dX4_init_9 rfl (lv_at hl 1 rfl) ?_
    refine lv_goto (tgt := 14) hx hb dX4_init_10 (by decide) ?_
    exact tail

abbrev rmJ7_fill_53178 : Room := { frames := 0, cells := 0, slots := 0, locals := 0 }
set_option maxRecDepth 100000 in
set_option maxHeartbeats 4000000 in
theorem c_J7_fill (l : Launch) (D : va_G) (cyI cyZ cyJ : ClassId) (a len : Nat) (row : Nat → Int32) (v : Int32) (hlen : len < 2 ^ 31) : CtV l yJ7_fill_53178 wsJ7_fill_53178 rmJ7_fill_53178 D (T3 cyI cyZ cyJ) [.ref a, .int v] ([(a, .inl (cyI, len, .inl row))]) ([(a, .inl (cyI, len, .inl (fil row 0 len v)))]) := by
  refine CtV.of (cc := cJ7_fill_53178) (maxL := 4) (ret := none) (lv0 := [(0, .ref a), (1, .int v)]) (by decide) rfl (Nat.le_of_ble_eq_true rfl) rfl ?_
  intro p e s m below meth c A ls args Q hx hb hml hr hlk hts hown hK hP hA hD hS hl hQ
  have hown : s.vm.findClass RJ7 = some m.cls := hown
  refine lv_iconst (v := nI 0) hx hb dJ7_fill_53178_0 (by decide) ?_
  refine lv_istore_n (lv' := [(2, .int (nI 0)), (0, .ref a), (1, .int v)]) hx hb dJ7_fill_53178_1 rfl hl (by decide) rfl (fun ls hl => ?_)
  refine lv_aload_n hx hb dJ7_fill_53178_2 rfl (lv_at hl 1 rfl) ?_
  refine va_alen (v := nI len) hx hb hK hP 0 0 rfl rfl rfl dJ7_fill_53178_3 ?_
  refine lv_istore_n (lv' := [(3, .int (nI len)), (2, .int (nI 0)), (0, .ref a), (1, .int v)]) hx hb dJ7_fill_53178_4 rfl hl (by decide) rfl (fun ls hl => ?_)
  rw [show row = (fil row 0 0 v) from (fil_0 row 0 v).symm] at hP hD
  have LP5 : ∀ (fu : Nat) (i : Nat) (H : Heap) (locs : List Loc) (ls : Array Slot), (i ≤ len) → len - i < fu → va_P D vwCl ([(a, .inl (cyI, len, .inl (fil row 0 i v)))]) H → va_D A ([(a, .inl (cyI, len, .inl (fil row 0 i v)))]) → va_S A s.heap H locs → lv_has ls 4 [(0, .ref a), (1, .int v), (2, .int (nI i)), (3, .int (nI len))] → W p l e rmJ7_fill_53178 s m args below meth c H locs 0 0 Q (F0 m 5 ls []) := by
    intro fu
    induction fu with
    | zero =>
      intro i H locs ls hi0 hfu
      exact absurd hfu (Nat.not_lt_zero _)
    | succ fu ih =>
      intro i H locs ls hi0 hfu hP hD hS hl
      refine lv_iload_n hx hb dJ7_fill_53178_5 rfl (lv_at hl 2 rfl) ?_
      refine lv_iload_n hx hb dJ7_fill_53178_6 rfl (lv_at hl 3 rfl) ?_
      refine mq_ge (x := i) (y := len) (tgt := 20) (by omega) (by omega) hx hb dJ7_fill_53178_7 (by decide) (fun c1 => ?_) (fun c1 => ?_)
      · have e : i = len := by omega
        subst e
        exact CtV.ret hQ hx hb hr hlk hK hP hD hS dJ7_fill_53178_20 rfl
      · refine lv_aload_n hx hb dJ7_fill_53178_10 rfl (lv_at hl 0 rfl) ?_
        refine lv_iload_n hx hb dJ7_fill_53178_11 rfl (lv_at hl 2 rfl) ?_
        refine lv_iload_n hx hb dJ7_fill_53178_12 rfl (lv_at hl 1 rfl) ?_
        refine mq_stR (k := i) (fil row 0 i v) v (ws' := [(a, .inl (cyI, len, .inl (ru (fil row 0 i v) i v)))]) hx hb hK hP hD hS 0 0 rfl rfl (by omega) hlen dJ7_fill_53178_13 rfl (fun H locs hP hD hS => ?_)
        rw [show (ru (fil row 0 i v) i v) = (fil row 0 (i + 1) v) from fil_s (Nat.zero_le i)] at hP hD
        refine lv_iinc (v := nI (i + 1)) (lv' := [(2, .int (nI (i + 1))), (0, .ref a), (1, .int v), (3, .int (nI len))]) hx hb dJ7_fill_53178_14 hl (k := 2) rfl (inc1 _) (by decide) rfl (fun ls hl => ?_)
        refine lv_goto (tgt := 5) hx hb dJ7_fill_53178_17 (by decide) ?_
        exact ih (i + 1) _ _ _ (by omega) (by omega) hP hD hS (lv_sub hl [1, 2, 0, 3] rfl)
  exact LP5 _ 0 _ _ _ (Nat.zero_le _) (Nat.lt_succ_self _) hP hD hS (lv_sub hl [2, 3, 1, 0] rfl)
abbrev rmX0_bringHomeIfDirty : Room := { frames := 0, cells := 0, slots := 0, locals := 0 }
set_option maxRecDepth 100000 in
set_option maxHeartbeats 4000000 in
theorem c_bh (l : Launch) (D : va_G) (cyI cyZ cyJ : ClassId) (h a1 a2 a3 : Nat) (sc pl : Nat) (ln : Nat → Option Nat) (bn : Nat → Nat) (n : Nat) (dt : Nat → Bool) (hi sw mi hc co : Int32) (q : Nat) (hq : q < 256) : CtV l yX0_bringHomeIfDirty wsX0_bringHomeIfDirty rmX0_bringHomeIfDirty D (T3 cyI cyZ cyJ) [.ref h, .int (nI q)] (CBc cyI cyZ h a1 a2 a3 (sc, pl, ln, bn, n, dt, hi, sw, mi, hc, co)) (CBc cyI cyZ h a1 a2 a3 (cb_bh q (sc, pl, ln, bn, n, dt, hi, sw, mi, hc, co))) := by
  refine CtV.of (cc := cX0_bringHomeIfDirty) (maxL := 2) (ret := none) (lv0 := [(0, .ref h), (1, .int (nI q))]) (by decide) rfl (Nat.le_of_ble_eq_true rfl) rfl ?_
  intro p e s m below meth c A ls args Q hx hb hml hr hlk hts hown hK hP hA hD hS hl hQ
  have hown : s.vm.findClass RX0 = some m.cls := hown
  have hi_RX0 : ∀ w ∈ wsX00, w ∈ wsX0_bringHomeIfDirty := by decide +kernel
  have hf_18 := hts (.fieldLink RX0 18 "OutcastBench$CacheAndBench" "dirtyLines" "[Z") (by decide +kernel)
  have hf_49 := hts (.fieldLink RX0 49 "OutcastBench$CacheAndBench" "costSoFar" "I") (by decide +kernel)
  have hf_71 := hts (.fieldLink RX0 71 "OutcastBench$CacheAndBench" "homecomingCount" "I") (by decide +kernel)
  refine lv_aload_n hx hb dX0_bringHomeIfDirty_0 rfl (lv_at hl 0 rfl) ?_
  refine va_get (D := D) (ci := 0) (v := .ref a3) (C := RX0) (T := TX0) (N := 11) hx hb hts hi_RX0 hown hK hP 0 rfl rfl 5 (by decide) hf_18 (fun _ h9 => h9) rfl dX0_bringHomeIfDirty_1 ?_
  refine lv_iload_n hx hb dX0_bringHomeIfDirty_4 rfl (lv_at hl 1 rfl) ?_
  refine mq_zld (k := q) dt hx hb hK hP 3 1 rfl rfl (by omega) (Nat.le_of_ble_eq_true rfl) dX0_bringHomeIfDirty_5 ?_
  refine mq_bz (b := (dt q)) (tgt := 37) hx hb dX0_bringHomeIfDirty_6 (by decide) (fun c1 => ?_) (fun c1 => ?_)
  · exact CtV.ret hQ hx hb hr hlk hK hP hD hS dX0_bringHomeIfDirty_37 (congrArg (CBc cyI cyZ h a1 a2 a3) (by simp only [cb_bh, c1, ru_id c1, cI_f]; simp))
  · refine lv_aload_n hx hb dX0_bringHomeIfDirty_9 rfl (lv_at hl 0 rfl) ?_
    refine va_get (D := D) (ci := 0) (v := .ref a3) (C := RX0) (T := TX0) (N := 11) hx hb hts hi_RX0 hown hK hP 0 rfl rfl 5 (by decide) hf_18 (fun _ h9 => h9) rfl dX0_bringHomeIfDirty_10 ?_
    refine lv_iload_n hx hb dX0_bringHomeIfDirty_13 rfl (lv_at hl 1 rfl) ?_
    refine lv_iconst (v := nI 0) hx hb dX0_bringHomeIfDirty_14 (by decide) ?_
    refine mq_zst (k := q) dt false (ws' := CBc cyI cyZ h a1 a2 a3 (sc, pl, ln, bn, n, ru dt q false, hi, sw, mi, hc, co)) hx hb hK hP hD hS 3 1 rfl rfl (by omega) (Nat.le_of_ble_eq_true rfl) dX0_bringHomeIfDirty_15 rfl (fun H locs hP hD hS => ?_)
    refine lv_aload_n hx hb dX0_bringHomeIfDirty_16 rfl (lv_at hl 0 rfl) ?_
    refine lv_dup hx hb dX0_bringHomeIfDirty_17 rfl ?_
    refine va_get (D := D) (ci := 0) (v := .int hc) (C := RX0) (T := TX0) (N := 11) hx hb hts hi_RX0 hown hK hP 0 rfl rfl 9 (by decide) hf_71 (fun _ h9 => h9) rfl dX0_bringHomeIfDirty_18 ?_
    refine lv_iconst (v := nI 1) hx hb dX0_bringHomeIfDirty_21 (by decide) ?_
    refine lv_iadd (x := hc) (y := 1) hx hb dX0_bringHomeIfDirty_22 ?_
    refine mq_put (D := D) (ci := 0) (v := .int (hc + 1)) (ty := .int) (C := RX0) (T := TX0) (N := 11) (ws' := CBc cyI cyZ h a1 a2 a3 (sc, pl, ln, bn, n, ru dt q false, hi, sw, mi, hc + 1, co)) hx hb hts hi_RX0 tyX0 tyX0_ok nmX0 hown hK hP hD hS 0 rfl rfl 9 (by decide) hf_71 (fun _ h9 => h9) rfl (by decide +kernel) rfl rfl (Nat.le_of_ble_eq_true rfl) dX0_bringHomeIfDirty_23 rfl (fun H locs hP hD hS => ?_)
    refine lv_aload_n hx hb dX0_bringHomeIfDirty_26 rfl (lv_at hl 0 rfl) ?_
    refine lv_dup hx hb dX0_bringHomeIfDirty_27 rfl ?_
    refine va_get (D := D) (ci := 0) (v := .int co) (C := RX0) (T := TX0) (N := 11) hx hb hts hi_RX0 hown hK hP 0 rfl rfl 10 (by decide) hf_49 (fun _ h9 => h9) rfl dX0_bringHomeIfDirty_28 ?_
    refine lv_bipush (v := nI 10) hx hb dX0_bringHomeIfDirty_31 (by decide) ?_
    refine lv_iadd (x := co) (y := 10) hx hb dX0_bringHomeIfDirty_33 ?_
    refine mq_put (D := D) (ci := 0) (v := .int (co + 10)) (ty := .int) (C := RX0) (T := TX0) (N := 11) (ws' := CBc cyI cyZ h a1 a2 a3 (sc, pl, ln, bn, n, ru dt q false, hi, sw, mi, hc + 1, co + 10)) hx hb hts hi_RX0 tyX0 tyX0_ok nmX0 hown hK hP hD hS 0 rfl rfl 10 (by decide) hf_49 (fun _ h9 => h9) rfl (by decide +kernel) rfl rfl (Nat.le_of_ble_eq_true rfl) dX0_bringHomeIfDirty_34 rfl (fun H locs hP hD hS => ?_)
    exact CtV.ret hQ hx hb hr hlk hK hP hD hS dX0_bringHomeIfDirty_37 (congrArg (CBc cyI cyZ h a1 a2 a3) (by simp only [cb_bh, c1, cI_t]))
abbrev rmX0_leaveBench : Room := { frames := 0, cells := 0, slots := 0, locals := 0 }
set_option maxRecDepth 100000 in
set_option maxHeartbeats 4000000 in
theorem c_leave (l : Launch) (D : va_G) (cyI cyZ cyJ : ClassId) (h a1 a2 a3 : Nat) (sc pl : Nat) (ln : Nat → Option Nat) (bn : Nat → Nat) (n : Nat) (dt : Nat → Bool) (hi sw mi hc co : Int32) (k : Nat) (hk : k < n) (hn : n ≤ 8) : CtV l yX0_leaveBench wsX0_leaveBench rmX0_leaveBench D (T3 cyI cyZ cyJ) [.ref h, .int (nI k)] (CBc cyI cyZ h a1 a2 a3 (sc, pl, ln, bn, n, dt, hi, sw, mi, hc, co)) (CBc cyI cyZ h a1 a2 a3 (cb_leave k (sc, pl, ln, bn, n, dt, hi, sw, mi, hc, co))) := by
  refine CtV.of (cc := cX0_leaveBench) (maxL := 3) (ret := none) (lv0 := [(0, .ref h), (1, .int (nI k))]) (by decide) rfl (Nat.le_of_ble_eq_true rfl) rfl ?_
  intro p e s m below meth c A ls args Q hx hb hml hr hlk hts hown hK hP hA hD hS hl hQ
  have hown : s.vm.findClass RX0 = some m.cls := hown
  have hi_RX0 : ∀ w ∈ wsX00, w ∈ wsX0_leaveBench := by decide +kernel
  have hf_15 := hts (.fieldLink RX0 15 "OutcastBench$CacheAndBench" "bench" "[I") (by decide +kernel)
  have hf_39 := hts (.fieldLink RX0 39 "OutcastBench$CacheAndBench" "seated" "I") (by decide +kernel)
  refine lv_aload_n hx hb dX0_leaveBench_0 rfl (lv_at hl 0 rfl) ?_
  refine lv_dup hx hb dX0_leaveBench_1 rfl ?_
  refine va_get (D := D) (ci := 0) (v := .int (nI n)) (C := RX0) (T := TX0) (N := 11) hx hb hts hi_RX0 hown hK hP 0 rfl rfl 4 (by decide) hf_39 (fun _ h9 => h9) rfl dX0_leaveBench_2 ?_
  refine lv_iconst (v := nI 1) hx hb dX0_leaveBench_5 (by decide) ?_
  refine mq_isub (x := n) (y := 1) (by omega) hx hb dX0_leaveBench_6 ?_
  refine mq_put (D := D) (ci := 0) (v := .int (nI (n - 1))) (ty := .int) (C := RX0) (T := TX0) (N := 11) (ws' := CBc cyI cyZ h a1 a2 a3 (sc, pl, ln, bn, n - 1, dt, hi, sw, mi, hc, co)) hx hb hts hi_RX0 tyX0 tyX0_ok nmX0 hown hK hP hD hS 0 rfl rfl 4 (by decide) hf_39 (fun _ h9 => h9) rfl (by decide +kernel) rfl rfl (Nat.le_of_ble_eq_true rfl) dX0_leaveBench_7 rfl (fun H locs hP hD hS => ?_)
  refine lv_iload_n hx hb dX0_leaveBench_10 rfl (lv_at hl 1 rfl) ?_
  refine lv_istore_n (lv' := [(2, .int (nI k)), (0, .ref h), (1, .int (nI k))]) hx hb dX0_leaveBench_11 rfl hl (by decide) rfl (fun ls hl => ?_)
  rw [show bn = (shl bn k k) from (shl_0 bn k).symm] at hP hD
  have LP12 : ∀ (fu : Nat) (i : Nat) (H : Heap) (locs : List Loc) (ls : Array Slot), (k ≤ i) → (i ≤ n - 1) → n - 1 - i < fu → va_P D vwCl (CBc cyI cyZ h a1 a2 a3 (sc, pl, ln, shl bn k i, n - 1, dt, hi, sw, mi, hc, co)) H → va_D A (CBc cyI cyZ h a1 a2 a3 (sc, pl, ln, shl bn k i, n - 1, dt, hi, sw, mi, hc, co)) → va_S A s.heap H locs → lv_has ls 3 [(0, .ref h), (1, .int (nI k)), (2, .int (nI i))] → W p l e rmX0_leaveBench s m args below meth c H locs 0 0 Q (F0 m 12 ls []) := by
    intro fu
    induction fu with
    | zero =>
      intro i H locs ls h1 h2 hfu
      exact absurd hfu (Nat.not_lt_zero _)
    | succ fu ih =>
      intro i H locs ls h1 h2 hfu hP hD hS hl
      refine lv_iload_n hx hb dX0_leaveBench_12 rfl (lv_at hl 2 rfl) ?_
      refine lv_aload_n hx hb dX0_leaveBench_13 rfl (lv_at hl 0 rfl) ?_
      refine va_get (D := D) (ci := 0) (v := .int (nI (n - 1))) (C := RX0) (T := TX0) (N := 11) hx hb hts hi_RX0 hown hK hP 0 rfl rfl 4 (by decide) hf_39 (fun _ h9 => h9) rfl dX0_leaveBench_14 ?_
      refine mq_ge (x := i) (y := (n - 1)) (tgt := 40) (by omega) (by omega) hx hb dX0_leaveBench_17 (by decide) (fun c1 => ?_) (fun c1 => ?_)
      · have e : i = n - 1 := by omega
        subst e
        exact CtV.ret hQ hx hb hr hlk hK hP hD hS dX0_leaveBench_40 rfl
      · refine lv_aload_n hx hb dX0_leaveBench_20 rfl (lv_at hl 0 rfl) ?_
        refine va_get (D := D) (ci := 0) (v := .ref a2) (C := RX0) (T := TX0) (N := 11) hx hb hts hi_RX0 hown hK hP 0 rfl rfl 3 (by decide) hf_15 (fun _ h9 => h9) rfl dX0_leaveBench_21 ?_
        refine lv_iload_n hx hb dX0_leaveBench_24 rfl (lv_at hl 2 rfl) ?_
        refine lv_aload_n hx hb dX0_leaveBench_25 rfl (lv_at hl 0 rfl) ?_
        refine va_get (D := D) (ci := 0) (v := .ref a2) (C := RX0) (T := TX0) (N := 11) hx hb hts hi_RX0 hown hK hP 0 rfl rfl 3 (by decide) hf_15 (fun _ h9 => h9) rfl dX0_leaveBench_26 ?_
        refine lv_iload_n hx hb dX0_leaveBench_29 rfl (lv_at hl 2 rfl) ?_
        refine lv_iconst (v := nI 1) hx hb dX0_leaveBench_30 (by decide) ?_
        refine mq_iadd (x := i) (y := 1) hx hb dX0_leaveBench_31 ?_
        refine mq_ld (k := (i + 1)) nI (shl bn k i) hx hb hK hP 2 0 rfl rfl (by omega) (Nat.le_of_ble_eq_true rfl) dX0_leaveBench_32 ?_
        refine mq_st (k := i) nI (shl bn k i) ((shl bn k i) (i + 1)) (ws' := CBc cyI cyZ h a1 a2 a3 (sc, pl, ln, ru (shl bn k i) i ((shl bn k i) (i + 1)), n - 1, dt, hi, sw, mi, hc, co)) hx hb hK hP hD hS 2 0 rfl rfl (by omega) (Nat.le_of_ble_eq_true rfl) dX0_leaveBench_33 rfl (fun H locs hP hD hS => ?_)
        rw [show (ru (shl bn k i) i ((shl bn k i) (i + 1))) = (shl bn k (i + 1)) from shl_s h1] at hP hD
        refine lv_iinc (v := nI (i + 1)) (lv' := [(2, .int (nI (i + 1))), (0, .ref h), (1, .int (nI k))]) hx hb dX0_leaveBench_34 hl (k := 2) rfl (inc1 _) (by decide) rfl (fun ls hl => ?_)
        refine lv_goto (tgt := 12) hx hb dX0_leaveBench_37 (by decide) ?_
        exact ih (i + 1) _ _ _ (by omega) (by omega) (by omega) hP hD hS (lv_sub hl [1, 2, 0] rfl)
  exact LP12 _ k _ _ _ (Nat.le_refl _) (by omega) (Nat.lt_succ_self _) hP hD hS (lv_sub hl [1, 2, 0] rfl)
abbrev rmX0_setOf : Room := { frames := 0, cells := 0, slots := 0, locals := 0 }
set_option maxRecDepth 100000 in
set_option maxHeartbeats 4000000 in
theorem c_setOf (l : Launch) (D : va_G) (cyI cyZ cyJ : ClassId) (h a1 a2 a3 : Nat) (sc pl : Nat) (ln : Nat → Option Nat) (bn : Nat → Nat) (n : Nat) (dt : Nat → Bool) (hi sw mi hc co : Int32) (q : Nat) (hs : sc = 1 ∨ sc = 2 ∨ sc = 4 ∨ sc = 8 ∨ sc = 16) (hq : q < 256) : CtI l yX0_setOf wsX0_setOf rmX0_setOf D (T3 cyI cyZ cyJ) [.ref h, .int (nI q)] (CBc cyI cyZ h a1 a2 a3 (sc, pl, ln, bn, n, dt, hi, sw, mi, hc, co)) (nI (q % sc)) (CBc cyI cyZ h a1 a2 a3 (sc, pl, ln, bn, n, dt, hi, sw, mi, hc, co)) := by
  refine CtI.of (cc := cX0_setOf) (maxL := 2) (ret := (some .int)) (lv0 := [(0, .ref h), (1, .int (nI q))]) (by decide) rfl (Nat.le_of_ble_eq_true rfl) rfl ?_
  intro p e s m below meth c A ls args Q hx hb hml hr hlk hts hown hK hP hA hD hS hl hQ
  have hown : s.vm.findClass RX0 = some m.cls := hown
  have hi_RX0 : ∀ w ∈ wsX00, w ∈ wsX0_setOf := by decide +kernel
  have hf_26 := hts (.fieldLink RX0 26 "OutcastBench$CacheAndBench" "setCount" "I") (by decide +kernel)
  refine lv_iload_n hx hb dX0_setOf_0 rfl (lv_at hl 1 rfl) ?_
  refine lv_aload_n hx hb dX0_setOf_1 rfl (lv_at hl 0 rfl) ?_
  refine va_get (D := D) (ci := 0) (v := .int (nI sc)) (C := RX0) (T := TX0) (N := 11) hx hb hts hi_RX0 hown hK hP 0 rfl rfl 0 (by decide) hf_26 (fun _ h9 => h9) rfl dX0_setOf_2 ?_
  refine lv_iconst (v := nI 1) hx hb dX0_setOf_5 (by decide) ?_
  refine mq_isub (x := sc) (y := 1) (by omega) hx hb dX0_setOf_6 ?_
  refine lv_iand (x := nI q) (y := nI (sc - 1)) hx hb dX0_setOf_7 ?_
  exact CtI.ret hQ hx hb hr hlk hK hP hD hS dX0_setOf_8 (and_mask (by omega) hs) rfl
abbrev rmX0_seatOf : Room := { frames := 0, cells := 0, slots := 0, locals := 0 }
set_option maxRecDepth 100000 in
set_option maxHeartbeats 4000000 in
theorem c_seatOf (l : Launch) (D : va_G) (cyI cyZ cyJ : ClassId) (h a1 a2 a3 : Nat) (sc pl : Nat) (ln : Nat → Option Nat) (bn : Nat → Nat) (n : Nat) (dt : Nat → Bool) (hi sw mi hc co : Int32) (q : Nat) (hn : n ≤ 8) (hb8 : ∀ k, k < n → bn k < 256) (hq : q < 256) : CtI l yX0_seatOf wsX0_seatOf rmX0_seatOf D (T3 cyI cyZ cyJ) [.ref h, .int (nI q)] (CBc cyI cyZ h a1 a2 a3 (sc, pl, ln, bn, n, dt, hi, sw, mi, hc, co)) (oI (fnd (fun k => decide (bn k = q)) n)) (CBc cyI cyZ h a1 a2 a3 (sc, pl, ln, bn, n, dt, hi, sw, mi, hc, co)) := by
  refine CtI.of (cc := cX0_seatOf) (maxL := 3) (ret := (some .int)) (lv0 := [(0, .ref h), (1, .int (nI q))]) (by decide) rfl (Nat.le_of_ble_eq_true rfl) rfl ?_
  intro p e s m below meth c A ls args Q hx hb hml hr hlk hts hown hK hP hA hD hS hl hQ
  have hown : s.vm.findClass RX0 = some m.cls := hown
  have hi_RX0 : ∀ w ∈ wsX00, w ∈ wsX0_seatOf := by decide +kernel
  have hf_15 := hts (.fieldLink RX0 15 "OutcastBench$CacheAndBench" "bench" "[I") (by decide +kernel)
  have hf_39 := hts (.fieldLink RX0 39 "OutcastBench$CacheAndBench" "seated" "I") (by decide +kernel)
  refine lv_iconst (v := nI 0) hx hb dX0_seatOf_0 (by decide) ?_
  refine lv_istore_n (lv' := [(2, .int (nI 0)), (0, .ref h), (1, .int (nI q))]) hx hb dX0_seatOf_1 rfl hl (by decide) rfl (fun ls hl => ?_)
  have LP2 : ∀ (fu : Nat) (i : Nat) (H : Heap) (locs : List Loc) (ls : Array Slot), (i ≤ n) → (∀ j, j < i → decide (bn j = q) = false) → n - i < fu → va_P D vwCl (CBc cyI cyZ h a1 a2 a3 (sc, pl, ln, bn, n, dt, hi, sw, mi, hc, co)) H → va_D A (CBc cyI cyZ h a1 a2 a3 (sc, pl, ln, bn, n, dt, hi, sw, mi, hc, co)) → va_S A s.heap H locs → lv_has ls 3 [(0, .ref h), (1, .int (nI q)), (2, .int (nI i))] → W p l e rmX0_seatOf s m args below meth c H locs 0 0 Q (F0 m 2 ls []) := by
    intro fu
    induction fu with
    | zero =>
      intro i H locs ls h2 hno hfu
      exact absurd hfu (Nat.not_lt_zero _)
    | succ fu ih =>
      intro i H locs ls h2 hno hfu hP hD hS hl
      refine lv_iload_n hx hb dX0_seatOf_2 rfl (lv_at hl 2 rfl) ?_
      refine lv_aload_n hx hb dX0_seatOf_3 rfl (lv_at hl 0 rfl) ?_
      refine va_get (D := D) (ci := 0) (v := .int (nI n)) (C := RX0) (T := TX0) (N := 11) hx hb hts hi_RX0 hown hK hP 0 rfl rfl 4 (by decide) hf_39 (fun _ h9 => h9) rfl dX0_seatOf_4 ?_
      refine mq_ge (x := i) (y := n) (tgt := 28) (by omega) (by omega) hx hb dX0_seatOf_7 (by decide) (fun c1 => ?_) (fun c1 => ?_)
      · refine lv_iconst (v := -1) hx hb dX0_seatOf_28 (by decide) ?_
        exact CtI.ret hQ hx hb hr hlk hK hP hD hS dX0_seatOf_29 (by rw [fnd_none (fun j hj => hno j (by omega))]; rfl) rfl
      · refine lv_aload_n hx hb dX0_seatOf_10 rfl (lv_at hl 0 rfl) ?_
        refine va_get (D := D) (ci := 0) (v := .ref a2) (C := RX0) (T := TX0) (N := 11) hx hb hts hi_RX0 hown hK hP 0 rfl rfl 3 (by decide) hf_15 (fun _ h9 => h9) rfl dX0_seatOf_11 ?_
        refine lv_iload_n hx hb dX0_seatOf_14 rfl (lv_at hl 2 rfl) ?_
        refine mq_ld (k := i) nI bn hx hb hK hP 2 0 rfl rfl (by omega) (Nat.le_of_ble_eq_true rfl) dX0_seatOf_15 ?_
        refine lv_iload_n hx hb dX0_seatOf_16 rfl (lv_at hl 1 rfl) ?_
        refine mq_ne (x := (bn i)) (y := q) (tgt := 22) (by have := hb8 i (by omega); omega) (by omega) hx hb dX0_seatOf_17 (by decide) (fun c2 => ?_) (fun c2 => ?_)
        · refine lv_iinc (v := nI (i + 1)) (lv' := [(2, .int (nI (i + 1))), (0, .ref h), (1, .int (nI q))]) hx hb dX0_seatOf_22 hl (k := 2) rfl (inc1 _) (by decide) rfl (fun ls hl => ?_)
          refine lv_goto (tgt := 2) hx hb dX0_seatOf_25 (by decide) ?_
          exact ih (i + 1) _ _ _ (by omega) (fun j hj => by by_cases e : j = i; (subst e; exact decide_eq_false c2); exact hno j (by omega)) (by omega) hP hD hS (lv_sub hl [1, 2, 0] rfl)
        · refine lv_iload_n hx hb dX0_seatOf_20 rfl (lv_at hl 2 rfl) ?_
          exact CtI.ret hQ hx hb hr hlk hK hP hD hS dX0_seatOf_21 (by rw [fnd_some (by omega) hno (decide_eq_true c2)]; rfl) rfl
  exact LP2 _ 0 _ _ _ (Nat.zero_le _) (fun j hj => absurd hj (Nat.not_lt_zero j)) (Nat.lt_succ_self _) hP hD hS (lv_sub hl [1, 2, 0] rfl)
abbrev rmX0_throwOut : Room := { frames := 1, cells := 0, slots := 0, locals := 22 }
set_option maxRecDepth 100000 in
set_option maxHeartbeats 4000000 in
theorem c_throw (l : Launch) (D : va_G) (cyI cyZ cyJ : ClassId) (h a1 a2 a3 : Nat) (sc pl : Nat) (ln : Nat → Option Nat) (bn : Nat → Nat) (n : Nat) (dt : Nat → Bool) (hi sw mi hc co : Int32) (si : Nat) (hsi : si < 16) (hbd : cb_bd (sc, pl, ln, bn, n, dt, hi, sw, mi, hc, co)) : CtV l yX0_throwOut wsX0_throwOut rmX0_throwOut D (T3 cyI cyZ cyJ) [.ref h, .int (nI si)] (CBc cyI cyZ h a1 a2 a3 (sc, pl, ln, bn, n, dt, hi, sw, mi, hc, co)) (CBc cyI cyZ h a1 a2 a3 (cb_throw si (sc, pl, ln, bn, n, dt, hi, sw, mi, hc, co))) := by
  refine CtV.of (cc := cX0_throwOut) (maxL := 3) (ret := none) (lv0 := [(0, .ref h), (1, .int (nI si))]) (by decide) rfl (Nat.le_of_ble_eq_true rfl) rfl ?_
  intro p e s m below meth c A ls args Q hx hb hml hr hlk hts hown hK hP hA hD hS hl hQ
  have hown : s.vm.findClass RX0 = some m.cls := hown
  have hi_RX0 : ∀ w ∈ wsX00, w ∈ wsX0_throwOut := by decide +kernel
  have hf_9 := hts (.fieldLink RX0 9 "OutcastBench$CacheAndBench" "lines" "[I") (by decide +kernel)
  have hf_15 := hts (.fieldLink RX0 15 "OutcastBench$CacheAndBench" "bench" "[I") (by decide +kernel)
  have hf_30 := hts (.fieldLink RX0 30 "OutcastBench$CacheAndBench" "placeCount" "I") (by decide +kernel)
  have hf_39 := hts (.fieldLink RX0 39 "OutcastBench$CacheAndBench" "seated" "I") (by decide +kernel)
  obtain ⟨hsc, hpl, hn8, hln, hb8⟩ := hbd
  refine lv_aload_n hx hb dX0_throwOut_0 rfl (lv_at hl 0 rfl) ?_
  refine va_get (D := D) (ci := 0) (v := .ref a1) (C := RX0) (T := TX0) (N := 11) hx hb hts hi_RX0 hown hK hP 0 rfl rfl 2 (by decide) hf_9 (fun _ h9 => h9) rfl dX0_throwOut_1 ?_
  refine lv_iload_n hx hb dX0_throwOut_4 rfl (lv_at hl 1 rfl) ?_
  refine mq_ld (k := si) oI ln hx hb hK hP 1 0 rfl rfl (by omega) (Nat.le_of_ble_eq_true rfl) dX0_throwOut_5 ?_
  rcases hls : ln si with _ | q
  · refine lv_istore_n (lv' := [(2, .int (oI none)), (0, .ref h), (1, .int (nI si))]) hx hb dX0_throwOut_6 rfl hl (by decide) rfl (fun ls hl => ?_)
    refine lv_iload_n hx hb dX0_throwOut_7 rfl (lv_at hl 0 rfl) ?_
    refine lv_iconst (v := -1) hx hb dX0_throwOut_8 (by decide) ?_
    refine lv_icmp_ne (x := oI none) (y := -1) (tgt := 13) hx hb dX0_throwOut_9 (by decide) (fun c1 => ?_) (fun c1 => ?_)
    · exact absurd rfl c1
    · exact CtV.ret hQ hx hb hr hlk hK hP hD hS dX0_throwOut_12 (congrArg (CBc cyI cyZ h a1 a2 a3) (by simp [cb_throw, hls]))
  · have hq : q < 256 := hln si q hls
    refine lv_istore_n (lv' := [(2, .int (nI q)), (0, .ref h), (1, .int (nI si))]) hx hb dX0_throwOut_6 rfl hl (by decide) rfl (fun ls hl => ?_)
    refine lv_iload_n hx hb dX0_throwOut_7 rfl (lv_at hl 0 rfl) ?_
    refine lv_iconst (v := -1) hx hb dX0_throwOut_8 (by decide) ?_
    refine lv_icmp_ne (x := nI q) (y := -1) (tgt := 13) hx hb dX0_throwOut_9 (by decide) (fun c1 => ?_) (fun c1 => ?_)
    · refine lv_aload_n hx hb dX0_throwOut_13 rfl (lv_at hl 1 rfl) ?_
      refine va_get (D := D) (ci := 0) (v := .ref a1) (C := RX0) (T := TX0) (N := 11) hx hb hts hi_RX0 hown hK hP 0 rfl rfl 2 (by decide) hf_9 (fun _ h9 => h9) rfl dX0_throwOut_14 ?_
      refine lv_iload_n hx hb dX0_throwOut_17 rfl (lv_at hl 2 rfl) ?_
      refine lv_iconst (v := -1) hx hb dX0_throwOut_18 (by decide) ?_
      refine mq_st (k := si) oI ln none (ws' := CBc cyI cyZ h a1 a2 a3 (sc, pl, ru ln si none, bn, n, dt, hi, sw, mi, hc, co)) hx hb hK hP hD hS 1 0 rfl rfl (by omega) (Nat.le_of_ble_eq_true rfl) dX0_throwOut_19 rfl (fun H locs hP hD hS => ?_)
      refine lv_aload_n hx hb dX0_throwOut_20 rfl (lv_at hl 1 rfl) ?_
      refine va_get (D := D) (ci := 0) (v := .int (nI pl)) (C := RX0) (T := TX0) (N := 11) hx hb hts hi_RX0 hown hK hP 0 rfl rfl 1 (by decide) hf_30 (fun _ h9 => h9) rfl dX0_throwOut_21 ?_
      refine mq_nz (x := pl) (tgt := 33) (by omega) hx hb dX0_throwOut_24 (by decide) (fun c2 => ?_) (fun c2 => ?_)
      · refine lv_aload_n hx hb dX0_throwOut_33 rfl (lv_at hl 1 rfl) ?_
        refine va_get (D := D) (ci := 0) (v := .int (nI n)) (C := RX0) (T := TX0) (N := 11) hx hb hts hi_RX0 hown hK hP 0 rfl rfl 4 (by decide) hf_39 (fun _ h9 => h9) rfl dX0_throwOut_34 ?_
        refine lv_aload_n hx hb dX0_throwOut_37 rfl (lv_at hl 1 rfl) ?_
        refine va_get (D := D) (ci := 0) (v := .int (nI pl)) (C := RX0) (T := TX0) (N := 11) hx hb hts hi_RX0 hown hK hP 0 rfl rfl 1 (by decide) hf_30 (fun _ h9 => h9) rfl dX0_throwOut_38 ?_
        refine mq_lt (x := n) (y := pl) (tgt := 59) (by omega) (by omega) hx hb dX0_throwOut_41 (by decide) (fun c3 => ?_) (fun c3 => ?_)
        · refine lv_aload_n hx hb dX0_throwOut_59 rfl (lv_at hl 1 rfl) ?_
          refine va_get (D := D) (ci := 0) (v := .ref a2) (C := RX0) (T := TX0) (N := 11) hx hb hts hi_RX0 hown hK hP 0 rfl rfl 3 (by decide) hf_15 (fun _ h9 => h9) rfl dX0_throwOut_60 ?_
          refine lv_aload_n hx hb dX0_throwOut_63 rfl (lv_at hl 1 rfl) ?_
          refine va_get (D := D) (ci := 0) (v := .int (nI n)) (C := RX0) (T := TX0) (N := 11) hx hb hts hi_RX0 hown hK hP 0 rfl rfl 4 (by decide) hf_39 (fun _ h9 => h9) rfl dX0_throwOut_64 ?_
          refine lv_iload_n hx hb dX0_throwOut_67 rfl (lv_at hl 0 rfl) ?_
          refine mq_st (k := n) nI bn q (ws' := CBc cyI cyZ h a1 a2 a3 (sc, pl, ru ln si none, ru bn n q, n, dt, hi, sw, mi, hc, co)) hx hb hK hP hD hS 2 0 rfl rfl (by omega) (Nat.le_of_ble_eq_true rfl) dX0_throwOut_68 rfl (fun H locs hP hD hS => ?_)
          refine lv_aload_n hx hb dX0_throwOut_69 rfl (lv_at hl 1 rfl) ?_
          refine lv_dup hx hb dX0_throwOut_70 rfl ?_
          refine va_get (D := D) (ci := 0) (v := .int (nI n)) (C := RX0) (T := TX0) (N := 11) hx hb hts hi_RX0 hown hK hP 0 rfl rfl 4 (by decide) hf_39 (fun _ h9 => h9) rfl dX0_throwOut_71 ?_
          refine lv_iconst (v := nI 1) hx hb dX0_throwOut_74 (by decide) ?_
          refine mq_iadd (x := n) (y := 1) hx hb dX0_throwOut_75 ?_
          refine mq_put (D := D) (ci := 0) (v := .int (nI (n + 1))) (ty := .int) (C := RX0) (T := TX0) (N := 11) (ws' := CBc cyI cyZ h a1 a2 a3 (sc, pl, ru ln si none, ru bn n q, n + 1, dt, hi, sw, mi, hc, co)) hx hb hts hi_RX0 tyX0 tyX0_ok nmX0 hown hK hP hD hS 0 rfl rfl 4 (by decide) hf_39 (fun _ h9 => h9) rfl (by decide +kernel) rfl rfl (Nat.le_of_ble_eq_true rfl) dX0_throwOut_76 rfl (fun H locs hP hD hS => ?_)
          exact CtV.ret hQ hx hb hr hlk hK hP hD hS dX0_throwOut_79 (congrArg (CBc cyI cyZ h a1 a2 a3) (by simp only [cb_throw, hls]; rw [if_neg (by omega), if_neg (by omega)]; rfl))
        · refine lv_aload_n hx hb dX0_throwOut_44 rfl (lv_at hl 1 rfl) ?_
          refine lv_aload_n hx hb dX0_throwOut_45 rfl (lv_at hl 1 rfl) ?_
          refine va_get (D := D) (ci := 0) (v := .ref a2) (C := RX0) (T := TX0) (N := 11) hx hb hts hi_RX0 hown hK hP 0 rfl rfl 3 (by decide) hf_15 (fun _ h9 => h9) rfl dX0_throwOut_46 ?_
          refine lv_iconst (v := nI 0) hx hb dX0_throwOut_49 (by decide) ?_
          refine mq_ld (k := 0) nI bn hx hb hK hP 2 0 rfl rfl (by omega) (Nat.le_of_ble_eq_true rfl) dX0_throwOut_50 ?_
          refine CtV.callV (n := 1) (q0 := 0) (ci := 0) (wc := CBc cyI cyZ h a1 a2 a3 (sc, pl, ru ln si none, bn, n, dt, hi, sw, mi, hc, co)) (wr := ([] : va_W)) (w1 := CBc cyI cyZ h a1 a2 a3 (sc, pl, ru ln si none, bn, n, ru dt (bn 0) false, hi, sw, mi, hc + cI (dt (bn 0)) 1, co + cI (dt (bn 0)) 10)) (ws' := CBc cyI cyZ h a1 a2 a3 (sc, pl, ru ln si none, bn, n, ru dt (bn 0) false, hi, sw, mi, hc + cI (dt (bn 0)) 1, co + cI (dt (bn 0)) 10)) (isC := [0, 1, 2, 3]) (isR := []) (ps := [0, 1, 2, 3]) (As := [.int (nI (bn 0))]) (rest := []) (c_bh l D cyI cyZ cyJ h a1 a2 a3 sc pl (ru ln si none) bn n dt hi sw mi hc co (bn 0) (hb8 0 (by omega))) ⟨hx, hb, hown, hts⟩ gX0_throwOut_X0_bringHomeIfDirty rfl ⟨rfl, by decide, by decide, by decide +kernel⟩ ⟨Nat.le_of_ble_eq_true rfl, Nat.le_of_ble_eq_true rfl⟩ ⟨rfl, rfl⟩ hml hl.1 hK hP hD hS hA ⟨rfl, rfl, rfl, rfl, rfl, rfl, rfl⟩ rfl ⟨rfl, rfl⟩ rfl rfl (Nat.le_of_ble_eq_true rfl) ⟨Nat.zero_le _, Nat.zero_le _⟩ dX0_throwOut_51 (fun H locs hP hD hS => ?_)
          refine lv_aload_n hx hb dX0_throwOut_54 rfl (lv_at hl 1 rfl) ?_
          refine lv_iconst (v := nI 0) hx hb dX0_throwOut_55 (by decide) ?_
          refine CtV.callV (n := 1) (q0 := 0) (ci := 0) (wc := CBc cyI cyZ h a1 a2 a3 (sc, pl, ru ln si none, bn, n, ru dt (bn 0) false, hi, sw, mi, hc + cI (dt (bn 0)) 1, co + cI (dt (bn 0)) 10)) (wr := ([] : va_W)) (w1 := CBc cyI cyZ h a1 a2 a3 (sc, pl, ru ln si none, shl bn 0 (n - 1), n - 1, ru dt (bn 0) false, hi, sw, mi, hc + cI (dt (bn 0)) 1, co + cI (dt (bn 0)) 10)) (ws' := CBc cyI cyZ h a1 a2 a3 (sc, pl, ru ln si none, shl bn 0 (n - 1), n - 1, ru dt (bn 0) false, hi, sw, mi, hc + cI (dt (bn 0)) 1, co + cI (dt (bn 0)) 10)) (isC := [0, 1, 2, 3]) (isR := []) (ps := [0, 1, 2, 3]) (As := [.int (nI 0)]) (rest := []) (c_leave l D cyI cyZ cyJ h a1 a2 a3 sc pl (ru ln si none) bn n (ru dt (bn 0) false) hi sw mi (hc + cI (dt (bn 0)) 1) (co + cI (dt (bn 0)) 10) 0 (by omega) hn8) ⟨hx, hb, hown, hts⟩ gX0_throwOut_X0_leaveBench rfl ⟨rfl, by decide, by decide, by decide +kernel⟩ ⟨Nat.le_of_ble_eq_true rfl, Nat.le_of_ble_eq_true rfl⟩ ⟨rfl, rfl⟩ hml hl.1 hK hP hD hS hA ⟨rfl, rfl, rfl, rfl, rfl, rfl, rfl⟩ rfl ⟨rfl, rfl⟩ rfl rfl (Nat.le_of_ble_eq_true rfl) ⟨Nat.zero_le _, Nat.zero_le _⟩ dX0_throwOut_56 (fun H locs hP hD hS => ?_)
          refine lv_aload_n hx hb dX0_throwOut_59 rfl (lv_at hl 1 rfl) ?_
          refine va_get (D := D) (ci := 0) (v := .ref a2) (C := RX0) (T := TX0) (N := 11) hx hb hts hi_RX0 hown hK hP 0 rfl rfl 3 (by decide) hf_15 (fun _ h9 => h9) rfl dX0_throwOut_60 ?_
          refine lv_aload_n hx hb dX0_throwOut_63 rfl (lv_at hl 1 rfl) ?_
          refine va_get (D := D) (ci := 0) (v := .int (nI (n - 1))) (C := RX0) (T := TX0) (N := 11) hx hb hts hi_RX0 hown hK hP 0 rfl rfl 4 (by decide) hf_39 (fun _ h9 => h9) rfl dX0_throwOut_64 ?_
          refine lv_iload_n hx hb dX0_throwOut_67 rfl (lv_at hl 0 rfl) ?_
          refine mq_st (k := (n - 1)) nI (shl bn 0 (n - 1)) q (ws' := CBc cyI cyZ h a1 a2 a3 (sc, pl, ru ln si none, ru (shl bn 0 (n - 1)) (n - 1) q, n - 1, ru dt (bn 0) false, hi, sw, mi, hc + cI (dt (bn 0)) 1, co + cI (dt (bn 0)) 10)) hx hb hK hP hD hS 2 0 rfl rfl (by omega) (Nat.le_of_ble_eq_true rfl) dX0_throwOut_68 rfl (fun H locs hP hD hS => ?_)
          refine lv_aload_n hx hb dX0_throwOut_69 rfl (lv_at hl 1 rfl) ?_
          refine lv_dup hx hb dX0_throwOut_70 rfl ?_
          refine va_get (D := D) (ci := 0) (v := .int (nI (n - 1))) (C := RX0) (T := TX0) (N := 11) hx hb hts hi_RX0 hown hK hP 0 rfl rfl 4 (by decide) hf_39 (fun _ h9 => h9) rfl dX0_throwOut_71 ?_
          refine lv_iconst (v := nI 1) hx hb dX0_throwOut_74 (by decide) ?_
          refine mq_iadd (x := (n - 1)) (y := 1) hx hb dX0_throwOut_75 ?_
          refine mq_put (D := D) (ci := 0) (v := .int (nI (n - 1 + 1))) (ty := .int) (C := RX0) (T := TX0) (N := 11) (ws' := CBc cyI cyZ h a1 a2 a3 (sc, pl, ru ln si none, ru (shl bn 0 (n - 1)) (n - 1) q, n - 1 + 1, ru dt (bn 0) false, hi, sw, mi, hc + cI (dt (bn 0)) 1, co + cI (dt (bn 0)) 10)) hx hb hts hi_RX0 tyX0 tyX0_ok nmX0 hown hK hP hD hS 0 rfl rfl 4 (by decide) hf_39 (fun _ h9 => h9) rfl (by decide +kernel) rfl rfl (Nat.le_of_ble_eq_true rfl) dX0_throwOut_76 rfl (fun H locs hP hD hS => ?_)
          exact CtV.ret hQ hx hb hr hlk hK hP hD hS dX0_throwOut_79 (congrArg (CBc cyI cyZ h a1 a2 a3) (by simp only [cb_throw, hls]; rw [if_neg (by omega), if_pos c3]; rfl))
      · refine lv_aload_n hx hb dX0_throwOut_27 rfl (lv_at hl 1 rfl) ?_
        refine lv_iload_n hx hb dX0_throwOut_28 rfl (lv_at hl 0 rfl) ?_
        refine CtV.callV (n := 1) (q0 := 0) (ci := 0) (wc := CBc cyI cyZ h a1 a2 a3 (sc, pl, ru ln si none, bn, n, dt, hi, sw, mi, hc, co)) (wr := ([] : va_W)) (w1 := CBc cyI cyZ h a1 a2 a3 (sc, pl, ru ln si none, bn, n, ru dt q false, hi, sw, mi, hc + cI (dt q) 1, co + cI (dt q) 10)) (ws' := CBc cyI cyZ h a1 a2 a3 (sc, pl, ru ln si none, bn, n, ru dt q false, hi, sw, mi, hc + cI (dt q) 1, co + cI (dt q) 10)) (isC := [0, 1, 2, 3]) (isR := []) (ps := [0, 1, 2, 3]) (As := [.int (nI q)]) (rest := []) (c_bh l D cyI cyZ cyJ h a1 a2 a3 sc pl (ru ln si none) bn n dt hi sw mi hc co q hq) ⟨hx, hb, hown, hts⟩ gX0_throwOut_X0_bringHomeIfDirty rfl ⟨rfl, by decide, by decide, by decide +kernel⟩ ⟨Nat.le_of_ble_eq_true rfl, Nat.le_of_ble_eq_true rfl⟩ ⟨rfl, rfl⟩ hml hl.1 hK hP hD hS hA ⟨rfl, rfl, rfl, rfl, rfl, rfl, rfl⟩ rfl ⟨rfl, rfl⟩ rfl rfl (Nat.le_of_ble_eq_true rfl) ⟨Nat.zero_le _, Nat.zero_le _⟩ dX0_throwOut_29 (fun H locs hP hD hS => ?_)
        exact CtV.ret hQ hx hb hr hlk hK hP hD hS dX0_throwOut_32 (congrArg (CBc cyI cyZ h a1 a2 a3) (by simp only [cb_throw, hls]; rw [if_pos c2]; rfl))
    · exact absurd c1 (nI_m1 (by omega))
abbrev rmX0_access : Room := { frames := 2, cells := 0, slots := 0, locals := 44 }
set_option maxRecDepth 100000 in
set_option maxHeartbeats 4000000 in
theorem c_acc (l : Launch) (D : va_G) (cyI cyZ cyJ : ClassId) (h a1 a2 a3 : Nat) (sc pl : Nat) (ln : Nat → Option Nat) (bn : Nat → Nat) (n : Nat) (dt : Nat → Bool) (hi sw mi hc co : Int32) (q : Nat) (w : Bool) (hbd : cb_bd (sc, pl, ln, bn, n, dt, hi, sw, mi, hc, co)) (hq : q < 256) : CtV l yX0_access wsX0_access rmX0_access D (T3 cyI cyZ cyJ) [.ref h, .int (nI q), .int (bI w)] (CBc cyI cyZ h a1 a2 a3 (sc, pl, ln, bn, n, dt, hi, sw, mi, hc, co)) (CBc cyI cyZ h a1 a2 a3 (cb_acc q w (sc, pl, ln, bn, n, dt, hi, sw, mi, hc, co))) := by
  refine CtV.of (cc := cX0_access) (maxL := 5) (ret := none) (lv0 := [(0, .ref h), (1, .int (nI q)), (2, .int (bI w))]) (by decide) rfl (Nat.le_of_ble_eq_true rfl) rfl ?_
  intro p e s m below meth c A ls args Q hx hb hml hr hlk hts hown hK hP hA hD hS hl hQ
  have hown : s.vm.findClass RX0 = some m.cls := hown
  have hi_RX0 : ∀ w ∈ wsX00, w ∈ wsX0_access := by decide +kernel
  have hf_9 := hts (.fieldLink RX0 9 "OutcastBench$CacheAndBench" "lines" "[I") (by decide +kernel)
  have hf_18 := hts (.fieldLink RX0 18 "OutcastBench$CacheAndBench" "dirtyLines" "[Z") (by decide +kernel)
  have hf_46 := hts (.fieldLink RX0 46 "OutcastBench$CacheAndBench" "hitCount" "I") (by decide +kernel)
  have hf_49 := hts (.fieldLink RX0 49 "OutcastBench$CacheAndBench" "costSoFar" "I") (by decide +kernel)
  have hf_55 := hts (.fieldLink RX0 55 "OutcastBench$CacheAndBench" "missCount" "I") (by decide +kernel)
  have hf_58 := hts (.fieldLink RX0 58 "OutcastBench$CacheAndBench" "swapCount" "I") (by decide +kernel)
  have hbd0 := hbd
  obtain ⟨hsc, hpl, hn8, hln, hb8⟩ := hbd0
  have hs16 := mod16 q hsc
  refine lv_aload_n hx hb dX0_access_0 rfl (lv_at hl 0 rfl) ?_
  refine lv_iload_n hx hb dX0_access_1 rfl (lv_at hl 1 rfl) ?_
  refine CtI.callV (n := 1) (q0 := 0) (ci := 0) (wc := CBc cyI cyZ h a1 a2 a3 (sc, pl, ln, bn, n, dt, hi, sw, mi, hc, co)) (wr := ([] : va_W)) (w1 := CBc cyI cyZ h a1 a2 a3 (sc, pl, ln, bn, n, dt, hi, sw, mi, hc, co)) (ws' := CBc cyI cyZ h a1 a2 a3 (sc, pl, ln, bn, n, dt, hi, sw, mi, hc, co)) (isC := [0, 1, 2, 3]) (isR := []) (ps := [0, 1, 2, 3]) (As := [.int (nI q)]) (rest := []) (c_setOf l D cyI cyZ cyJ h a1 a2 a3 sc pl ln bn n dt hi sw mi hc co q hsc hq) ⟨hx, hb, hown, hts⟩ gX0_access_X0_setOf rfl ⟨rfl, by decide, by decide, by decide +kernel⟩ ⟨Nat.le_of_ble_eq_true rfl, Nat.le_of_ble_eq_true rfl⟩ ⟨rfl, rfl⟩ hml hl.1 hK hP hD hS hA ⟨rfl, rfl, rfl, rfl, rfl, rfl, rfl⟩ rfl ⟨rfl, rfl⟩ rfl rfl (Nat.le_of_ble_eq_true rfl) ⟨Nat.zero_le _, Nat.zero_le _⟩ dX0_access_2 (fun H locs hP hD hS => ?_)
  refine lv_istore_n (lv' := [(3, .int (nI (q % sc))), (0, .ref h), (1, .int (nI q)), (2, .int (bI w))]) hx hb dX0_access_5 rfl hl (by decide) rfl (fun ls hl => ?_)
  refine lv_aload_n hx hb dX0_access_6 rfl (lv_at hl 1 rfl) ?_
  refine va_get (D := D) (ci := 0) (v := .ref a1) (C := RX0) (T := TX0) (N := 11) hx hb hts hi_RX0 hown hK hP 0 rfl rfl 2 (by decide) hf_9 (fun _ h9 => h9) rfl dX0_access_7 ?_
  refine lv_iload_n hx hb dX0_access_10 rfl (lv_at hl 0 rfl) ?_
  refine mq_ld (k := (q % sc)) oI ln hx hb hK hP 1 0 rfl rfl hs16 (Nat.le_of_ble_eq_true rfl) dX0_access_11 ?_
  rcases hls : ln (q % sc) with _ | r
  · refine lv_iload_n hx hb dX0_access_12 rfl (lv_at hl 2 rfl) ?_
    refine lv_icmp_ne (x := oI none) (y := nI q) (tgt := 39) hx hb dX0_access_13 (by decide) (fun c1 => ?_) (fun c1 => ?_)
    · have hnh : ¬ cb_ln (sc, pl, ln, bn, n, dt, hi, sw, mi, hc, co) (q % cb_sc (sc, pl, ln, bn, n, dt, hi, sw, mi, hc, co)) = some q := by show ¬ ln (q % sc) = some q; rw [hls]; simp
      refine lv_aload_n hx hb dX0_access_39 rfl (lv_at hl 1 rfl) ?_
      refine lv_iload_n hx hb dX0_access_40 rfl (lv_at hl 2 rfl) ?_
      refine CtI.callV (n := 1) (q0 := 0) (ci := 0) (wc := CBc cyI cyZ h a1 a2 a3 (sc, pl, ln, bn, n, dt, hi, sw, mi, hc, co)) (wr := ([] : va_W)) (w1 := CBc cyI cyZ h a1 a2 a3 (sc, pl, ln, bn, n, dt, hi, sw, mi, hc, co)) (ws' := CBc cyI cyZ h a1 a2 a3 (sc, pl, ln, bn, n, dt, hi, sw, mi, hc, co)) (isC := [0, 1, 2, 3]) (isR := []) (ps := [0, 1, 2, 3]) (As := [.int (nI q)]) (rest := []) (c_seatOf l D cyI cyZ cyJ h a1 a2 a3 sc pl ln bn n dt hi sw mi hc co q hn8 hb8 hq) ⟨hx, hb, hown, hts⟩ gX0_access_X0_seatOf rfl ⟨rfl, by decide, by decide, by decide +kernel⟩ ⟨Nat.le_of_ble_eq_true rfl, Nat.le_of_ble_eq_true rfl⟩ ⟨rfl, rfl⟩ hml hl.1 hK hP hD hS hA ⟨rfl, rfl, rfl, rfl, rfl, rfl, rfl⟩ rfl ⟨rfl, rfl⟩ rfl rfl (Nat.le_of_ble_eq_true rfl) ⟨Nat.zero_le _, Nat.zero_le _⟩ dX0_access_41 (fun H locs hP hD hS => ?_)
      rcases hse : fnd (fun k => decide (bn k = q)) n with _ | k
      · refine lv_istore (lv' := [(4, .int (oI none)), (3, .int (nI (q % sc))), (0, .ref h), (1, .int (nI q)), (2, .int (bI w))]) hx hb dX0_access_44 hl (by decide) rfl (fun ls hl => ?_)
        refine lv_iload hx hb dX0_access_46 (lv_at hl 0 rfl) ?_
        refine lv_iconst (v := -1) hx hb dX0_access_48 (by decide) ?_
        refine lv_icmp_ne (x := oI none) (y := -1) (tgt := 76) hx hb dX0_access_49 (by decide) (fun c3 => ?_) (fun c3 => ?_)
        · exact absurd rfl c3
        · refine lv_aload_n hx hb dX0_access_52 rfl (lv_at hl 2 rfl) ?_
          refine lv_dup hx hb dX0_access_53 rfl ?_
          refine va_get (D := D) (ci := 0) (v := .int mi) (C := RX0) (T := TX0) (N := 11) hx hb hts hi_RX0 hown hK hP 0 rfl rfl 8 (by decide) hf_55 (fun _ h9 => h9) rfl dX0_access_54 ?_
          refine lv_iconst (v := nI 1) hx hb dX0_access_57 (by decide) ?_
          refine lv_iadd (x := mi) (y := 1) hx hb dX0_access_58 ?_
          refine mq_put (D := D) (ci := 0) (v := .int (mi + 1)) (ty := .int) (C := RX0) (T := TX0) (N := 11) (ws' := CBc cyI cyZ h a1 a2 a3 (sc, pl, ln, bn, n, dt, hi, sw, mi + 1, hc, co)) hx hb hts hi_RX0 tyX0 tyX0_ok nmX0 hown hK hP hD hS 0 rfl rfl 8 (by decide) hf_55 (fun _ h9 => h9) rfl (by decide +kernel) rfl rfl (Nat.le_of_ble_eq_true rfl) dX0_access_59 rfl (fun H locs hP hD hS => ?_)
          refine lv_aload_n hx hb dX0_access_62 rfl (lv_at hl 2 rfl) ?_
          refine lv_dup hx hb dX0_access_63 rfl ?_
          refine va_get (D := D) (ci := 0) (v := .int co) (C := RX0) (T := TX0) (N := 11) hx hb hts hi_RX0 hown hK hP 0 rfl rfl 10 (by decide) hf_49 (fun _ h9 => h9) rfl dX0_access_64 ?_
          refine lv_bipush (v := nI 20) hx hb dX0_access_67 (by decide) ?_
          refine lv_iadd (x := co) (y := 20) hx hb dX0_access_69 ?_
          refine mq_put (D := D) (ci := 0) (v := .int (co + 20)) (ty := .int) (C := RX0) (T := TX0) (N := 11) (ws' := CBc cyI cyZ h a1 a2 a3 (sc, pl, ln, bn, n, dt, hi, sw, mi + 1, hc, co + 20)) hx hb hts hi_RX0 tyX0 tyX0_ok nmX0 hown hK hP hD hS 0 rfl rfl 10 (by decide) hf_49 (fun _ h9 => h9) rfl (by decide +kernel) rfl rfl (Nat.le_of_ble_eq_true rfl) dX0_access_70 rfl (fun H locs hP hD hS => ?_)
          refine lv_goto (tgt := 102) hx hb dX0_access_73 (by decide) ?_
          refine lv_aload_n hx hb dX0_access_102 rfl (lv_at hl 2 rfl) ?_
          refine lv_iload_n hx hb dX0_access_103 rfl (lv_at hl 1 rfl) ?_
          obtain ⟨⟨sc1, pl1, ln1, bn1, n1, dt1, hi1, sw1, mi1, hc1, co1⟩, hu1⟩ : ∃ z : CBu, z = cb_throw (q % sc) (sc, pl, ln, bn, n, dt, hi, sw, mi + 1, hc, co + 20) := ⟨_, rfl⟩
          have hT := c_throw l D cyI cyZ cyJ h a1 a2 a3 sc pl ln bn n dt hi sw (mi + 1) hc (co + 20) (q % sc) hs16 hbd
          rw [← hu1] at hT
          refine CtV.callV (n := 1) (q0 := 0) (ci := 0) (wc := CBc cyI cyZ h a1 a2 a3 (sc, pl, ln, bn, n, dt, hi, sw, mi + 1, hc, co + 20)) (wr := ([] : va_W)) (w1 := CBc cyI cyZ h a1 a2 a3 (sc1, pl1, ln1, bn1, n1, dt1, hi1, sw1, mi1, hc1, co1)) (ws' := CBc cyI cyZ h a1 a2 a3 (sc1, pl1, ln1, bn1, n1, dt1, hi1, sw1, mi1, hc1, co1)) (isC := [0, 1, 2, 3]) (isR := []) (ps := [0, 1, 2, 3]) (As := [.int (nI (q % sc))]) (rest := []) (hT) ⟨hx, hb, hown, hts⟩ gX0_access_X0_throwOut rfl ⟨rfl, by decide, by decide, by decide +kernel⟩ ⟨Nat.le_of_ble_eq_true rfl, Nat.le_of_ble_eq_true rfl⟩ ⟨rfl, rfl⟩ hml hl.1 hK hP hD hS hA ⟨rfl, rfl, rfl, rfl, rfl, rfl, rfl⟩ rfl ⟨rfl, rfl⟩ rfl rfl (Nat.le_of_ble_eq_true rfl) ⟨Nat.zero_le _, Nat.zero_le _⟩ dX0_access_104 (fun H locs hP hD hS => ?_)
          refine lv_aload_n hx hb dX0_access_107 rfl (lv_at hl 2 rfl) ?_
          refine va_get (D := D) (ci := 0) (v := .ref a1) (C := RX0) (T := TX0) (N := 11) hx hb hts hi_RX0 hown hK hP 0 rfl rfl 2 (by decide) hf_9 (fun _ h9 => h9) rfl dX0_access_108 ?_
          refine lv_iload_n hx hb dX0_access_111 rfl (lv_at hl 1 rfl) ?_
          refine lv_iload_n hx hb dX0_access_112 rfl (lv_at hl 3 rfl) ?_
          refine mq_st (k := (q % sc)) oI ln1 (some q) (ws' := CBc cyI cyZ h a1 a2 a3 (sc1, pl1, ru ln1 (q % sc) (some q), bn1, n1, dt1, hi1, sw1, mi1, hc1, co1)) hx hb hK hP hD hS 1 0 rfl rfl (by omega) (Nat.le_of_ble_eq_true rfl) dX0_access_113 rfl (fun H locs hP hD hS => ?_)
          refine lv_iload_n hx hb dX0_access_114 rfl (lv_at hl 4 rfl) ?_
          refine mq_bz (b := w) (tgt := 125) hx hb dX0_access_115 (by decide) (fun cw => ?_) (fun cw => ?_)
          · exact CtV.ret hQ hx hb hr hlk hK hP hD hS dX0_access_125 (congrArg (CBc cyI cyZ h a1 a2 a3) (by unfold cb_acc; rw [if_neg hnh]; show _ = (match fnd (fun k => decide (bn k = q)) n with | none => cb_put (q % sc) q w (cb_throw (q % sc) (sc, pl, ln, bn, n, dt, hi, sw, mi + 1, hc, co + 20)) | some k => cb_put (q % sc) q w (cb_throw (q % sc) (cb_leave k (cb_swapped (sc, pl, ln, bn, n, dt, hi, sw, mi, hc, co))))); rw [hse, ← hu1]; simp only [cb_put, cw]; rfl))
          · refine lv_aload_n hx hb dX0_access_118 rfl (lv_at hl 2 rfl) ?_
            refine va_get (D := D) (ci := 0) (v := .ref a3) (C := RX0) (T := TX0) (N := 11) hx hb hts hi_RX0 hown hK hP 0 rfl rfl 5 (by decide) hf_18 (fun _ h9 => h9) rfl dX0_access_119 ?_
            refine lv_iload_n hx hb dX0_access_122 rfl (lv_at hl 3 rfl) ?_
            refine lv_iconst (v := nI 1) hx hb dX0_access_123 (by decide) ?_
            refine mq_zst (k := q) dt1 true (ws' := CBc cyI cyZ h a1 a2 a3 (sc1, pl1, ru ln1 (q % sc) (some q), bn1, n1, ru dt1 q true, hi1, sw1, mi1, hc1, co1)) hx hb hK hP hD hS 3 1 rfl rfl (by omega) (Nat.le_of_ble_eq_true rfl) dX0_access_124 rfl (fun H locs hP hD hS => ?_)
            exact CtV.ret hQ hx hb hr hlk hK hP hD hS dX0_access_125 (congrArg (CBc cyI cyZ h a1 a2 a3) (by unfold cb_acc; rw [if_neg hnh]; show _ = (match fnd (fun k => decide (bn k = q)) n with | none => cb_put (q % sc) q w (cb_throw (q % sc) (sc, pl, ln, bn, n, dt, hi, sw, mi + 1, hc, co + 20)) | some k => cb_put (q % sc) q w (cb_throw (q % sc) (cb_leave k (cb_swapped (sc, pl, ln, bn, n, dt, hi, sw, mi, hc, co))))); rw [hse, ← hu1]; simp only [cb_put, cw]; rfl))
      · obtain ⟨hkn, hkq, -⟩ := fnd_of_some hse
        refine lv_istore (lv' := [(4, .int (nI k)), (3, .int (nI (q % sc))), (0, .ref h), (1, .int (nI q)), (2, .int (bI w))]) hx hb dX0_access_44 hl (by decide) rfl (fun ls hl => ?_)
        refine lv_iload hx hb dX0_access_46 (lv_at hl 0 rfl) ?_
        refine lv_iconst (v := -1) hx hb dX0_access_48 (by decide) ?_
        refine lv_icmp_ne (x := nI k) (y := -1) (tgt := 76) hx hb dX0_access_49 (by decide) (fun c3 => ?_) (fun c3 => ?_)
        · refine lv_aload_n hx hb dX0_access_76 rfl (lv_at hl 2 rfl) ?_
          refine lv_dup hx hb dX0_access_77 rfl ?_
          refine va_get (D := D) (ci := 0) (v := .int sw) (C := RX0) (T := TX0) (N := 11) hx hb hts hi_RX0 hown hK hP 0 rfl rfl 7 (by decide) hf_58 (fun _ h9 => h9) rfl dX0_access_78 ?_
          refine lv_iconst (v := nI 1) hx hb dX0_access_81 (by decide) ?_
          refine lv_iadd (x := sw) (y := 1) hx hb dX0_access_82 ?_
          refine mq_put (D := D) (ci := 0) (v := .int (sw + 1)) (ty := .int) (C := RX0) (T := TX0) (N := 11) (ws' := CBc cyI cyZ h a1 a2 a3 (sc, pl, ln, bn, n, dt, hi, sw + 1, mi, hc, co)) hx hb hts hi_RX0 tyX0 tyX0_ok nmX0 hown hK hP hD hS 0 rfl rfl 7 (by decide) hf_58 (fun _ h9 => h9) rfl (by decide +kernel) rfl rfl (Nat.le_of_ble_eq_true rfl) dX0_access_83 rfl (fun H locs hP hD hS => ?_)
          refine lv_aload_n hx hb dX0_access_86 rfl (lv_at hl 2 rfl) ?_
          refine lv_dup hx hb dX0_access_87 rfl ?_
          refine va_get (D := D) (ci := 0) (v := .int co) (C := RX0) (T := TX0) (N := 11) hx hb hts hi_RX0 hown hK hP 0 rfl rfl 10 (by decide) hf_49 (fun _ h9 => h9) rfl dX0_access_88 ?_
          refine lv_iconst (v := nI 3) hx hb dX0_access_91 (by decide) ?_
          refine lv_iadd (x := co) (y := 3) hx hb dX0_access_92 ?_
          refine mq_put (D := D) (ci := 0) (v := .int (co + 3)) (ty := .int) (C := RX0) (T := TX0) (N := 11) (ws' := CBc cyI cyZ h a1 a2 a3 (sc, pl, ln, bn, n, dt, hi, sw + 1, mi, hc, co + 3)) hx hb hts hi_RX0 tyX0 tyX0_ok nmX0 hown hK hP hD hS 0 rfl rfl 10 (by decide) hf_49 (fun _ h9 => h9) rfl (by decide +kernel) rfl rfl (Nat.le_of_ble_eq_true rfl) dX0_access_93 rfl (fun H locs hP hD hS => ?_)
          refine lv_aload_n hx hb dX0_access_96 rfl (lv_at hl 2 rfl) ?_
          refine lv_iload hx hb dX0_access_97 (lv_at hl 0 rfl) ?_
          refine CtV.callV (n := 1) (q0 := 0) (ci := 0) (wc := CBc cyI cyZ h a1 a2 a3 (sc, pl, ln, bn, n, dt, hi, sw + 1, mi, hc, co + 3)) (wr := ([] : va_W)) (w1 := CBc cyI cyZ h a1 a2 a3 (sc, pl, ln, shl bn k (n - 1), n - 1, dt, hi, sw + 1, mi, hc, co + 3)) (ws' := CBc cyI cyZ h a1 a2 a3 (sc, pl, ln, shl bn k (n - 1), n - 1, dt, hi, sw + 1, mi, hc, co + 3)) (isC := [0, 1, 2, 3]) (isR := []) (ps := [0, 1, 2, 3]) (As := [.int (nI k)]) (rest := []) (c_leave l D cyI cyZ cyJ h a1 a2 a3 sc pl ln bn n dt hi (sw + 1) mi hc (co + 3) k hkn hn8) ⟨hx, hb, hown, hts⟩ gX0_access_X0_leaveBench rfl ⟨rfl, by decide, by decide, by decide +kernel⟩ ⟨Nat.le_of_ble_eq_true rfl, Nat.le_of_ble_eq_true rfl⟩ ⟨rfl, rfl⟩ hml hl.1 hK hP hD hS hA ⟨rfl, rfl, rfl, rfl, rfl, rfl, rfl⟩ rfl ⟨rfl, rfl⟩ rfl rfl (Nat.le_of_ble_eq_true rfl) ⟨Nat.zero_le _, Nat.zero_le _⟩ dX0_access_99 (fun H locs hP hD hS => ?_)
          refine lv_aload_n hx hb dX0_access_102 rfl (lv_at hl 2 rfl) ?_
          refine lv_iload_n hx hb dX0_access_103 rfl (lv_at hl 1 rfl) ?_
          obtain ⟨⟨sc1, pl1, ln1, bn1, n1, dt1, hi1, sw1, mi1, hc1, co1⟩, hu1⟩ : ∃ z : CBu, z = cb_throw (q % sc) (sc, pl, ln, shl bn k (n - 1), n - 1, dt, hi, sw + 1, mi, hc, co + 3) := ⟨_, rfl⟩
          have hT := c_throw l D cyI cyZ cyJ h a1 a2 a3 sc pl ln (shl bn k (n - 1)) (n - 1) dt hi (sw + 1) mi hc (co + 3) (q % sc) hs16 (cb_bd_leave (u := (sc, pl, ln, bn, n, dt, hi, sw + 1, mi, hc, co + 3)) k hbd)
          rw [← hu1] at hT
          refine CtV.callV (n := 1) (q0 := 0) (ci := 0) (wc := CBc cyI cyZ h a1 a2 a3 (sc, pl, ln, shl bn k (n - 1), n - 1, dt, hi, sw + 1, mi, hc, co + 3)) (wr := ([] : va_W)) (w1 := CBc cyI cyZ h a1 a2 a3 (sc1, pl1, ln1, bn1, n1, dt1, hi1, sw1, mi1, hc1, co1)) (ws' := CBc cyI cyZ h a1 a2 a3 (sc1, pl1, ln1, bn1, n1, dt1, hi1, sw1, mi1, hc1, co1)) (isC := [0, 1, 2, 3]) (isR := []) (ps := [0, 1, 2, 3]) (As := [.int (nI (q % sc))]) (rest := []) (hT) ⟨hx, hb, hown, hts⟩ gX0_access_X0_throwOut rfl ⟨rfl, by decide, by decide, by decide +kernel⟩ ⟨Nat.le_of_ble_eq_true rfl, Nat.le_of_ble_eq_true rfl⟩ ⟨rfl, rfl⟩ hml hl.1 hK hP hD hS hA ⟨rfl, rfl, rfl, rfl, rfl, rfl, rfl⟩ rfl ⟨rfl, rfl⟩ rfl rfl (Nat.le_of_ble_eq_true rfl) ⟨Nat.zero_le _, Nat.zero_le _⟩ dX0_access_104 (fun H locs hP hD hS => ?_)
          refine lv_aload_n hx hb dX0_access_107 rfl (lv_at hl 2 rfl) ?_
          refine va_get (D := D) (ci := 0) (v := .ref a1) (C := RX0) (T := TX0) (N := 11) hx hb hts hi_RX0 hown hK hP 0 rfl rfl 2 (by decide) hf_9 (fun _ h9 => h9) rfl dX0_access_108 ?_
          refine lv_iload_n hx hb dX0_access_111 rfl (lv_at hl 1 rfl) ?_
          refine lv_iload_n hx hb dX0_access_112 rfl (lv_at hl 3 rfl) ?_
          refine mq_st (k := (q % sc)) oI ln1 (some q) (ws' := CBc cyI cyZ h a1 a2 a3 (sc1, pl1, ru ln1 (q % sc) (some q), bn1, n1, dt1, hi1, sw1, mi1, hc1, co1)) hx hb hK hP hD hS 1 0 rfl rfl (by omega) (Nat.le_of_ble_eq_true rfl) dX0_access_113 rfl (fun H locs hP hD hS => ?_)
          refine lv_iload_n hx hb dX0_access_114 rfl (lv_at hl 4 rfl) ?_
          refine mq_bz (b := w) (tgt := 125) hx hb dX0_access_115 (by decide) (fun cw => ?_) (fun cw => ?_)
          · exact CtV.ret hQ hx hb hr hlk hK hP hD hS dX0_access_125 (congrArg (CBc cyI cyZ h a1 a2 a3) (by unfold cb_acc; rw [if_neg hnh]; show _ = (match fnd (fun k => decide (bn k = q)) n with | none => cb_put (q % sc) q w (cb_throw (q % sc) (cb_missed (sc, pl, ln, bn, n, dt, hi, sw, mi, hc, co))) | some k => cb_put (q % sc) q w (cb_throw (q % sc) (sc, pl, ln, shl bn k (n - 1), n - 1, dt, hi, sw + 1, mi, hc, co + 3))); rw [hse]; show _ = cb_put (q % sc) q w (cb_throw (q % sc) (sc, pl, ln, shl bn k (n - 1), n - 1, dt, hi, sw + 1, mi, hc, co + 3)); rw [← hu1]; simp only [cb_put, cw]; rfl))
          · refine lv_aload_n hx hb dX0_access_118 rfl (lv_at hl 2 rfl) ?_
            refine va_get (D := D) (ci := 0) (v := .ref a3) (C := RX0) (T := TX0) (N := 11) hx hb hts hi_RX0 hown hK hP 0 rfl rfl 5 (by decide) hf_18 (fun _ h9 => h9) rfl dX0_access_119 ?_
            refine lv_iload_n hx hb dX0_access_122 rfl (lv_at hl 3 rfl) ?_
            refine lv_iconst (v := nI 1) hx hb dX0_access_123 (by decide) ?_
            refine mq_zst (k := q) dt1 true (ws' := CBc cyI cyZ h a1 a2 a3 (sc1, pl1, ru ln1 (q % sc) (some q), bn1, n1, ru dt1 q true, hi1, sw1, mi1, hc1, co1)) hx hb hK hP hD hS 3 1 rfl rfl (by omega) (Nat.le_of_ble_eq_true rfl) dX0_access_124 rfl (fun H locs hP hD hS => ?_)
            exact CtV.ret hQ hx hb hr hlk hK hP hD hS dX0_access_125 (congrArg (CBc cyI cyZ h a1 a2 a3) (by unfold cb_acc; rw [if_neg hnh]; show _ = (match fnd (fun k => decide (bn k = q)) n with | none => cb_put (q % sc) q w (cb_throw (q % sc) (cb_missed (sc, pl, ln, bn, n, dt, hi, sw, mi, hc, co))) | some k => cb_put (q % sc) q w (cb_throw (q % sc) (sc, pl, ln, shl bn k (n - 1), n - 1, dt, hi, sw + 1, mi, hc, co + 3))); rw [hse]; show _ = cb_put (q % sc) q w (cb_throw (q % sc) (sc, pl, ln, shl bn k (n - 1), n - 1, dt, hi, sw + 1, mi, hc, co + 3)); rw [← hu1]; simp only [cb_put, cw]; rfl))
        · exact absurd c3 (nI_m1 (by omega))
    · exact absurd (show nI q = -1 by first | exact c1.symm | (by_cases hh : oI none = nI q; exact hh.symm; exact absurd hh c1)) (nI_m1 (by omega))
  · have hrr : r < 256 := hln _ r hls
    refine lv_iload_n hx hb dX0_access_12 rfl (lv_at hl 2 rfl) ?_
    refine mq_ne (x := r) (y := q) (tgt := 39) (by omega) (by omega) hx hb dX0_access_13 (by decide) (fun c1 => ?_) (fun c1 => ?_)
    · have hnh : ¬ cb_ln (sc, pl, ln, bn, n, dt, hi, sw, mi, hc, co) (q % cb_sc (sc, pl, ln, bn, n, dt, hi, sw, mi, hc, co)) = some q := by show ¬ ln (q % sc) = some q; rw [hls]; simpa using c1
      refine lv_aload_n hx hb dX0_access_39 rfl (lv_at hl 1 rfl) ?_
      refine lv_iload_n hx hb dX0_access_40 rfl (lv_at hl 2 rfl) ?_
      refine CtI.callV (n := 1) (q0 := 0) (ci := 0) (wc := CBc cyI cyZ h a1 a2 a3 (sc, pl, ln, bn, n, dt, hi, sw, mi, hc, co)) (wr := ([] : va_W)) (w1 := CBc cyI cyZ h a1 a2 a3 (sc, pl, ln, bn, n, dt, hi, sw, mi, hc, co)) (ws' := CBc cyI cyZ h a1 a2 a3 (sc, pl, ln, bn, n, dt, hi, sw, mi, hc, co)) (isC := [0, 1, 2, 3]) (isR := []) (ps := [0, 1, 2, 3]) (As := [.int (nI q)]) (rest := []) (c_seatOf l D cyI cyZ cyJ h a1 a2 a3 sc pl ln bn n dt hi sw mi hc co q hn8 hb8 hq) ⟨hx, hb, hown, hts⟩ gX0_access_X0_seatOf rfl ⟨rfl, by decide, by decide, by decide +kernel⟩ ⟨Nat.le_of_ble_eq_true rfl, Nat.le_of_ble_eq_true rfl⟩ ⟨rfl, rfl⟩ hml hl.1 hK hP hD hS hA ⟨rfl, rfl, rfl, rfl, rfl, rfl, rfl⟩ rfl ⟨rfl, rfl⟩ rfl rfl (Nat.le_of_ble_eq_true rfl) ⟨Nat.zero_le _, Nat.zero_le _⟩ dX0_access_41 (fun H locs hP hD hS => ?_)
      rcases hse : fnd (fun k => decide (bn k = q)) n with _ | k
      · refine lv_istore (lv' := [(4, .int (oI none)), (3, .int (nI (q % sc))), (0, .ref h), (1, .int (nI q)), (2, .int (bI w))]) hx hb dX0_access_44 hl (by decide) rfl (fun ls hl => ?_)
        refine lv_iload hx hb dX0_access_46 (lv_at hl 0 rfl) ?_
        refine lv_iconst (v := -1) hx hb dX0_access_48 (by decide) ?_
        refine lv_icmp_ne (x := oI none) (y := -1) (tgt := 76) hx hb dX0_access_49 (by decide) (fun c3 => ?_) (fun c3 => ?_)
        · exact absurd rfl c3
        · refine lv_aload_n hx hb dX0_access_52 rfl (lv_at hl 2 rfl) ?_
          refine lv_dup hx hb dX0_access_53 rfl ?_
          refine va_get (D := D) (ci := 0) (v := .int mi) (C := RX0) (T := TX0) (N := 11) hx hb hts hi_RX0 hown hK hP 0 rfl rfl 8 (by decide) hf_55 (fun _ h9 => h9) rfl dX0_access_54 ?_
          refine lv_iconst (v := nI 1) hx hb dX0_access_57 (by decide) ?_
          refine lv_iadd (x := mi) (y := 1) hx hb dX0_access_58 ?_
          refine mq_put (D := D) (ci := 0) (v := .int (mi + 1)) (ty := .int) (C := RX0) (T := TX0) (N := 11) (ws' := CBc cyI cyZ h a1 a2 a3 (sc, pl, ln, bn, n, dt, hi, sw, mi + 1, hc, co)) hx hb hts hi_RX0 tyX0 tyX0_ok nmX0 hown hK hP hD hS 0 rfl rfl 8 (by decide) hf_55 (fun _ h9 => h9) rfl (by decide +kernel) rfl rfl (Nat.le_of_ble_eq_true rfl) dX0_access_59 rfl (fun H locs hP hD hS => ?_)
          refine lv_aload_n hx hb dX0_access_62 rfl (lv_at hl 2 rfl) ?_
          refine lv_dup hx hb dX0_access_63 rfl ?_
          refine va_get (D := D) (ci := 0) (v := .int co) (C := RX0) (T := TX0) (N := 11) hx hb hts hi_RX0 hown hK hP 0 rfl rfl 10 (by decide) hf_49 (fun _ h9 => h9) rfl dX0_access_64 ?_
          refine lv_bipush (v := nI 20) hx hb dX0_access_67 (by decide) ?_
          refine lv_iadd (x := co) (y := 20) hx hb dX0_access_69 ?_
          refine mq_put (D := D) (ci := 0) (v := .int (co + 20)) (ty := .int) (C := RX0) (T := TX0) (N := 11) (ws' := CBc cyI cyZ h a1 a2 a3 (sc, pl, ln, bn, n, dt, hi, sw, mi + 1, hc, co + 20)) hx hb hts hi_RX0 tyX0 tyX0_ok nmX0 hown hK hP hD hS 0 rfl rfl 10 (by decide) hf_49 (fun _ h9 => h9) rfl (by decide +kernel) rfl rfl (Nat.le_of_ble_eq_true rfl) dX0_access_70 rfl (fun H locs hP hD hS => ?_)
          refine lv_goto (tgt := 102) hx hb dX0_access_73 (by decide) ?_
          refine lv_aload_n hx hb dX0_access_102 rfl (lv_at hl 2 rfl) ?_
          refine lv_iload_n hx hb dX0_access_103 rfl (lv_at hl 1 rfl) ?_
          obtain ⟨⟨sc1, pl1, ln1, bn1, n1, dt1, hi1, sw1, mi1, hc1, co1⟩, hu1⟩ : ∃ z : CBu, z = cb_throw (q % sc) (sc, pl, ln, bn, n, dt, hi, sw, mi + 1, hc, co + 20) := ⟨_, rfl⟩
          have hT := c_throw l D cyI cyZ cyJ h a1 a2 a3 sc pl ln bn n dt hi sw (mi + 1) hc (co + 20) (q % sc) hs16 hbd
          rw [← hu1] at hT
          refine CtV.callV (n := 1) (q0 := 0) (ci := 0) (wc := CBc cyI cyZ h a1 a2 a3 (sc, pl, ln, bn, n, dt, hi, sw, mi + 1, hc, co + 20)) (wr := ([] : va_W)) (w1 := CBc cyI cyZ h a1 a2 a3 (sc1, pl1, ln1, bn1, n1, dt1, hi1, sw1, mi1, hc1, co1)) (ws' := CBc cyI cyZ h a1 a2 a3 (sc1, pl1, ln1, bn1, n1, dt1, hi1, sw1, mi1, hc1, co1)) (isC := [0, 1, 2, 3]) (isR := []) (ps := [0, 1, 2, 3]) (As := [.int (nI (q % sc))]) (rest := []) (hT) ⟨hx, hb, hown, hts⟩ gX0_access_X0_throwOut rfl ⟨rfl, by decide, by decide, by decide +kernel⟩ ⟨Nat.le_of_ble_eq_true rfl, Nat.le_of_ble_eq_true rfl⟩ ⟨rfl, rfl⟩ hml hl.1 hK hP hD hS hA ⟨rfl, rfl, rfl, rfl, rfl, rfl, rfl⟩ rfl ⟨rfl, rfl⟩ rfl rfl (Nat.le_of_ble_eq_true rfl) ⟨Nat.zero_le _, Nat.zero_le _⟩ dX0_access_104 (fun H locs hP hD hS => ?_)
          refine lv_aload_n hx hb dX0_access_107 rfl (lv_at hl 2 rfl) ?_
          refine va_get (D := D) (ci := 0) (v := .ref a1) (C := RX0) (T := TX0) (N := 11) hx hb hts hi_RX0 hown hK hP 0 rfl rfl 2 (by decide) hf_9 (fun _ h9 => h9) rfl dX0_access_108 ?_
          refine lv_iload_n hx hb dX0_access_111 rfl (lv_at hl 1 rfl) ?_
          refine lv_iload_n hx hb dX0_access_112 rfl (lv_at hl 3 rfl) ?_
          refine mq_st (k := (q % sc)) oI ln1 (some q) (ws' := CBc cyI cyZ h a1 a2 a3 (sc1, pl1, ru ln1 (q % sc) (some q), bn1, n1, dt1, hi1, sw1, mi1, hc1, co1)) hx hb hK hP hD hS 1 0 rfl rfl (by omega) (Nat.le_of_ble_eq_true rfl) dX0_access_113 rfl (fun H locs hP hD hS => ?_)
          refine lv_iload_n hx hb dX0_access_114 rfl (lv_at hl 4 rfl) ?_
          refine mq_bz (b := w) (tgt := 125) hx hb dX0_access_115 (by decide) (fun cw => ?_) (fun cw => ?_)
          · exact CtV.ret hQ hx hb hr hlk hK hP hD hS dX0_access_125 (congrArg (CBc cyI cyZ h a1 a2 a3) (by unfold cb_acc; rw [if_neg hnh]; show _ = (match fnd (fun k => decide (bn k = q)) n with | none => cb_put (q % sc) q w (cb_throw (q % sc) (sc, pl, ln, bn, n, dt, hi, sw, mi + 1, hc, co + 20)) | some k => cb_put (q % sc) q w (cb_throw (q % sc) (cb_leave k (cb_swapped (sc, pl, ln, bn, n, dt, hi, sw, mi, hc, co))))); rw [hse, ← hu1]; simp only [cb_put, cw]; rfl))
          · refine lv_aload_n hx hb dX0_access_118 rfl (lv_at hl 2 rfl) ?_
            refine va_get (D := D) (ci := 0) (v := .ref a3) (C := RX0) (T := TX0) (N := 11) hx hb hts hi_RX0 hown hK hP 0 rfl rfl 5 (by decide) hf_18 (fun _ h9 => h9) rfl dX0_access_119 ?_
            refine lv_iload_n hx hb dX0_access_122 rfl (lv_at hl 3 rfl) ?_
            refine lv_iconst (v := nI 1) hx hb dX0_access_123 (by decide) ?_
            refine mq_zst (k := q) dt1 true (ws' := CBc cyI cyZ h a1 a2 a3 (sc1, pl1, ru ln1 (q % sc) (some q), bn1, n1, ru dt1 q true, hi1, sw1, mi1, hc1, co1)) hx hb hK hP hD hS 3 1 rfl rfl (by omega) (Nat.le_of_ble_eq_true rfl) dX0_access_124 rfl (fun H locs hP hD hS => ?_)
            exact CtV.ret hQ hx hb hr hlk hK hP hD hS dX0_access_125 (congrArg (CBc cyI cyZ h a1 a2 a3) (by unfold cb_acc; rw [if_neg hnh]; show _ = (match fnd (fun k => decide (bn k = q)) n with | none => cb_put (q % sc) q w (cb_throw (q % sc) (sc, pl, ln, bn, n, dt, hi, sw, mi + 1, hc, co + 20)) | some k => cb_put (q % sc) q w (cb_throw (q % sc) (cb_leave k (cb_swapped (sc, pl, ln, bn, n, dt, hi, sw, mi, hc, co))))); rw [hse, ← hu1]; simp only [cb_put, cw]; rfl))
      · obtain ⟨hkn, hkq, -⟩ := fnd_of_some hse
        refine lv_istore (lv' := [(4, .int (nI k)), (3, .int (nI (q % sc))), (0, .ref h), (1, .int (nI q)), (2, .int (bI w))]) hx hb dX0_access_44 hl (by decide) rfl (fun ls hl => ?_)
        refine lv_iload hx hb dX0_access_46 (lv_at hl 0 rfl) ?_
        refine lv_iconst (v := -1) hx hb dX0_access_48 (by decide) ?_
        refine lv_icmp_ne (x := nI k) (y := -1) (tgt := 76) hx hb dX0_access_49 (by decide) (fun c3 => ?_) (fun c3 => ?_)
        · refine lv_aload_n hx hb dX0_access_76 rfl (lv_at hl 2 rfl) ?_
          refine lv_dup hx hb dX0_access_77 rfl ?_
          refine va_get (D := D) (ci := 0) (v := .int sw) (C := RX0) (T := TX0) (N := 11) hx hb hts hi_RX0 hown hK hP 0 rfl rfl 7 (by decide) hf_58 (fun _ h9 => h9) rfl dX0_access_78 ?_
          refine lv_iconst (v := nI 1) hx hb dX0_access_81 (by decide) ?_
          refine lv_iadd (x := sw) (y := 1) hx hb dX0_access_82 ?_
          refine mq_put (D := D) (ci := 0) (v := .int (sw + 1)) (ty := .int) (C := RX0) (T := TX0) (N := 11) (ws' := CBc cyI cyZ h a1 a2 a3 (sc, pl, ln, bn, n, dt, hi, sw + 1, mi, hc, co)) hx hb hts hi_RX0 tyX0 tyX0_ok nmX0 hown hK hP hD hS 0 rfl rfl 7 (by decide) hf_58 (fun _ h9 => h9) rfl (by decide +kernel) rfl rfl (Nat.le_of_ble_eq_true rfl) dX0_access_83 rfl (fun H locs hP hD hS => ?_)
          refine lv_aload_n hx hb dX0_access_86 rfl (lv_at hl 2 rfl) ?_
          refine lv_dup hx hb dX0_access_87 rfl ?_
          refine va_get (D := D) (ci := 0) (v := .int co) (C := RX0) (T := TX0) (N := 11) hx hb hts hi_RX0 hown hK hP 0 rfl rfl 10 (by decide) hf_49 (fun _ h9 => h9) rfl dX0_access_88 ?_
          refine lv_iconst (v := nI 3) hx hb dX0_access_91 (by decide) ?_
          refine lv_iadd (x := co) (y := 3) hx hb dX0_access_92 ?_
          refine mq_put (D := D) (ci := 0) (v := .int (co + 3)) (ty := .int) (C := RX0) (T := TX0) (N := 11) (ws' := CBc cyI cyZ h a1 a2 a3 (sc, pl, ln, bn, n, dt, hi, sw + 1, mi, hc, co + 3)) hx hb hts hi_RX0 tyX0 tyX0_ok nmX0 hown hK hP hD hS 0 rfl rfl 10 (by decide) hf_49 (fun _ h9 => h9) rfl (by decide +kernel) rfl rfl (Nat.le_of_ble_eq_true rfl) dX0_access_93 rfl (fun H locs hP hD hS => ?_)
          refine lv_aload_n hx hb dX0_access_96 rfl (lv_at hl 2 rfl) ?_
          refine lv_iload hx hb dX0_access_97 (lv_at hl 0 rfl) ?_
          refine CtV.callV (n := 1) (q0 := 0) (ci := 0) (wc := CBc cyI cyZ h a1 a2 a3 (sc, pl, ln, bn, n, dt, hi, sw + 1, mi, hc, co + 3)) (wr := ([] : va_W)) (w1 := CBc cyI cyZ h a1 a2 a3 (sc, pl, ln, shl bn k (n - 1), n - 1, dt, hi, sw + 1, mi, hc, co + 3)) (ws' := CBc cyI cyZ h a1 a2 a3 (sc, pl, ln, shl bn k (n - 1), n - 1, dt, hi, sw + 1, mi, hc, co + 3)) (isC := [0, 1, 2, 3]) (isR := []) (ps := [0, 1, 2, 3]) (As := [.int (nI k)]) (rest := []) (c_leave l D cyI cyZ cyJ h a1 a2 a3 sc pl ln bn n dt hi (sw + 1) mi hc (co + 3) k hkn hn8) ⟨hx, hb, hown, hts⟩ gX0_access_X0_leaveBench rfl ⟨rfl, by decide, by decide, by decide +kernel⟩ ⟨Nat.le_of_ble_eq_true rfl, Nat.le_of_ble_eq_true rfl⟩ ⟨rfl, rfl⟩ hml hl.1 hK hP hD hS hA ⟨rfl, rfl, rfl, rfl, rfl, rfl, rfl⟩ rfl ⟨rfl, rfl⟩ rfl rfl (Nat.le_of_ble_eq_true rfl) ⟨Nat.zero_le _, Nat.zero_le _⟩ dX0_access_99 (fun H locs hP hD hS => ?_)
          refine lv_aload_n hx hb dX0_access_102 rfl (lv_at hl 2 rfl) ?_
          refine lv_iload_n hx hb dX0_access_103 rfl (lv_at hl 1 rfl) ?_
          obtain ⟨⟨sc1, pl1, ln1, bn1, n1, dt1, hi1, sw1, mi1, hc1, co1⟩, hu1⟩ : ∃ z : CBu, z = cb_throw (q % sc) (sc, pl, ln, shl bn k (n - 1), n - 1, dt, hi, sw + 1, mi, hc, co + 3) := ⟨_, rfl⟩
          have hT := c_throw l D cyI cyZ cyJ h a1 a2 a3 sc pl ln (shl bn k (n - 1)) (n - 1) dt hi (sw + 1) mi hc (co + 3) (q % sc) hs16 (cb_bd_leave (u := (sc, pl, ln, bn, n, dt, hi, sw + 1, mi, hc, co + 3)) k hbd)
          rw [← hu1] at hT
          refine CtV.callV (n := 1) (q0 := 0) (ci := 0) (wc := CBc cyI cyZ h a1 a2 a3 (sc, pl, ln, shl bn k (n - 1), n - 1, dt, hi, sw + 1, mi, hc, co + 3)) (wr := ([] : va_W)) (w1 := CBc cyI cyZ h a1 a2 a3 (sc1, pl1, ln1, bn1, n1, dt1, hi1, sw1, mi1, hc1, co1)) (ws' := CBc cyI cyZ h a1 a2 a3 (sc1, pl1, ln1, bn1, n1, dt1, hi1, sw1, mi1, hc1, co1)) (isC := [0, 1, 2, 3]) (isR := []) (ps := [0, 1, 2, 3]) (As := [.int (nI (q % sc))]) (rest := []) (hT) ⟨hx, hb, hown, hts⟩ gX0_access_X0_throwOut rfl ⟨rfl, by decide, by decide, by decide +kernel⟩ ⟨Nat.le_of_ble_eq_true rfl, Nat.le_of_ble_eq_true rfl⟩ ⟨rfl, rfl⟩ hml hl.1 hK hP hD hS hA ⟨rfl, rfl, rfl, rfl, rfl, rfl, rfl⟩ rfl ⟨rfl, rfl⟩ rfl rfl (Nat.le_of_ble_eq_true rfl) ⟨Nat.zero_le _, Nat.zero_le _⟩ dX0_access_104 (fun H locs hP hD hS => ?_)
          refine lv_aload_n hx hb dX0_access_107 rfl (lv_at hl 2 rfl) ?_
          refine va_get (D := D) (ci := 0) (v := .ref a1) (C := RX0) (T := TX0) (N := 11) hx hb hts hi_RX0 hown hK hP 0 rfl rfl 2 (by decide) hf_9 (fun _ h9 => h9) rfl dX0_access_108 ?_
          refine lv_iload_n hx hb dX0_access_111 rfl (lv_at hl 1 rfl) ?_
          refine lv_iload_n hx hb dX0_access_112 rfl (lv_at hl 3 rfl) ?_
          refine mq_st (k := (q % sc)) oI ln1 (some q) (ws' := CBc cyI cyZ h a1 a2 a3 (sc1, pl1, ru ln1 (q % sc) (some q), bn1, n1, dt1, hi1, sw1, mi1, hc1, co1)) hx hb hK hP hD hS 1 0 rfl rfl (by omega) (Nat.le_of_ble_eq_true rfl) dX0_access_113 rfl (fun H locs hP hD hS => ?_)
          refine lv_iload_n hx hb dX0_access_114 rfl (lv_at hl 4 rfl) ?_
          refine mq_bz (b := w) (tgt := 125) hx hb dX0_access_115 (by decide) (fun cw => ?_) (fun cw => ?_)
          · exact CtV.ret hQ hx hb hr hlk hK hP hD hS dX0_access_125 (congrArg (CBc cyI cyZ h a1 a2 a3) (by unfold cb_acc; rw [if_neg hnh]; show _ = (match fnd (fun k => decide (bn k = q)) n with | none => cb_put (q % sc) q w (cb_throw (q % sc) (cb_missed (sc, pl, ln, bn, n, dt, hi, sw, mi, hc, co))) | some k => cb_put (q % sc) q w (cb_throw (q % sc) (sc, pl, ln, shl bn k (n - 1), n - 1, dt, hi, sw + 1, mi, hc, co + 3))); rw [hse]; show _ = cb_put (q % sc) q w (cb_throw (q % sc) (sc, pl, ln, shl bn k (n - 1), n - 1, dt, hi, sw + 1, mi, hc, co + 3)); rw [← hu1]; simp only [cb_put, cw]; rfl))
          · refine lv_aload_n hx hb dX0_access_118 rfl (lv_at hl 2 rfl) ?_
            refine va_get (D := D) (ci := 0) (v := .ref a3) (C := RX0) (T := TX0) (N := 11) hx hb hts hi_RX0 hown hK hP 0 rfl rfl 5 (by decide) hf_18 (fun _ h9 => h9) rfl dX0_access_119 ?_
            refine lv_iload_n hx hb dX0_access_122 rfl (lv_at hl 3 rfl) ?_
            refine lv_iconst (v := nI 1) hx hb dX0_access_123 (by decide) ?_
            refine mq_zst (k := q) dt1 true (ws' := CBc cyI cyZ h a1 a2 a3 (sc1, pl1, ru ln1 (q % sc) (some q), bn1, n1, ru dt1 q true, hi1, sw1, mi1, hc1, co1)) hx hb hK hP hD hS 3 1 rfl rfl (by omega) (Nat.le_of_ble_eq_true rfl) dX0_access_124 rfl (fun H locs hP hD hS => ?_)
            exact CtV.ret hQ hx hb hr hlk hK hP hD hS dX0_access_125 (congrArg (CBc cyI cyZ h a1 a2 a3) (by unfold cb_acc; rw [if_neg hnh]; show _ = (match fnd (fun k => decide (bn k = q)) n with | none => cb_put (q % sc) q w (cb_throw (q % sc) (cb_missed (sc, pl, ln, bn, n, dt, hi, sw, mi, hc, co))) | some k => cb_put (q % sc) q w (cb_throw (q % sc) (sc, pl, ln, shl bn k (n - 1), n - 1, dt, hi, sw + 1, mi, hc, co + 3))); rw [hse]; show _ = cb_put (q % sc) q w (cb_throw (q % sc) (sc, pl, ln, shl bn k (n - 1), n - 1, dt, hi, sw + 1, mi, hc, co + 3)); rw [← hu1]; simp only [cb_put, cw]; rfl))
        · exact absurd c3 (nI_m1 (by omega))
    · subst c1
      have hyh : cb_ln (sc, pl, ln, bn, n, dt, hi, sw, mi, hc, co) (r % cb_sc (sc, pl, ln, bn, n, dt, hi, sw, mi, hc, co)) = some r := hls
      refine lv_aload_n hx hb dX0_access_16 rfl (lv_at hl 1 rfl) ?_
      refine lv_dup hx hb dX0_access_17 rfl ?_
      refine va_get (D := D) (ci := 0) (v := .int hi) (C := RX0) (T := TX0) (N := 11) hx hb hts hi_RX0 hown hK hP 0 rfl rfl 6 (by decide) hf_46 (fun _ h9 => h9) rfl dX0_access_18 ?_
      refine lv_iconst (v := nI 1) hx hb dX0_access_21 (by decide) ?_
      refine lv_iadd (x := hi) (y := 1) hx hb dX0_access_22 ?_
      refine mq_put (D := D) (ci := 0) (v := .int (hi + 1)) (ty := .int) (C := RX0) (T := TX0) (N := 11) (ws' := CBc cyI cyZ h a1 a2 a3 (sc, pl, ln, bn, n, dt, hi + 1, sw, mi, hc, co)) hx hb hts hi_RX0 tyX0 tyX0_ok nmX0 hown hK hP hD hS 0 rfl rfl 6 (by decide) hf_46 (fun _ h9 => h9) rfl (by decide +kernel) rfl rfl (Nat.le_of_ble_eq_true rfl) dX0_access_23 rfl (fun H locs hP hD hS => ?_)
      refine lv_aload_n hx hb dX0_access_26 rfl (lv_at hl 1 rfl) ?_
      refine lv_dup hx hb dX0_access_27 rfl ?_
      refine va_get (D := D) (ci := 0) (v := .int co) (C := RX0) (T := TX0) (N := 11) hx hb hts hi_RX0 hown hK hP 0 rfl rfl 10 (by decide) hf_49 (fun _ h9 => h9) rfl dX0_access_28 ?_
      refine lv_iconst (v := nI 1) hx hb dX0_access_31 (by decide) ?_
      refine lv_iadd (x := co) (y := 1) hx hb dX0_access_32 ?_
      refine mq_put (D := D) (ci := 0) (v := .int (co + 1)) (ty := .int) (C := RX0) (T := TX0) (N := 11) (ws' := CBc cyI cyZ h a1 a2 a3 (sc, pl, ln, bn, n, dt, hi + 1, sw, mi, hc, co + 1)) hx hb hts hi_RX0 tyX0 tyX0_ok nmX0 hown hK hP hD hS 0 rfl rfl 10 (by decide) hf_49 (fun _ h9 => h9) rfl (by decide +kernel) rfl rfl (Nat.le_of_ble_eq_true rfl) dX0_access_33 rfl (fun H locs hP hD hS => ?_)
      refine lv_goto (tgt := 114) hx hb dX0_access_36 (by decide) ?_
      refine lv_iload_n hx hb dX0_access_114 rfl (lv_at hl 3 rfl) ?_
      refine mq_bz (b := w) (tgt := 125) hx hb dX0_access_115 (by decide) (fun cw => ?_) (fun cw => ?_)
      · exact CtV.ret hQ hx hb hr hlk hK hP hD hS dX0_access_125 (congrArg (CBc cyI cyZ h a1 a2 a3) (by unfold cb_acc; rw [if_pos hyh]; simp only [cb_hit, cw]; rfl))
      · refine lv_aload_n hx hb dX0_access_118 rfl (lv_at hl 1 rfl) ?_
        refine va_get (D := D) (ci := 0) (v := .ref a3) (C := RX0) (T := TX0) (N := 11) hx hb hts hi_RX0 hown hK hP 0 rfl rfl 5 (by decide) hf_18 (fun _ h9 => h9) rfl dX0_access_119 ?_
        refine lv_iload_n hx hb dX0_access_122 rfl (lv_at hl 2 rfl) ?_
        refine lv_iconst (v := nI 1) hx hb dX0_access_123 (by decide) ?_
        refine mq_zst (k := r) dt true (ws' := CBc cyI cyZ h a1 a2 a3 (sc, pl, ln, bn, n, ru dt r true, hi + 1, sw, mi, hc, co + 1)) hx hb hK hP hD hS 3 1 rfl rfl (by omega) (Nat.le_of_ble_eq_true rfl) dX0_access_124 rfl (fun H locs hP hD hS => ?_)
        exact CtV.ret hQ hx hb hr hlk hK hP hD hS dX0_access_125 (congrArg (CBc cyI cyZ h a1 a2 a3) (by unfold cb_acc; rw [if_pos hyh]; simp only [cb_hit, cw]; rfl))

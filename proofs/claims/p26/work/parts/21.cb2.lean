abbrev rmX0_startEmpty : Room := { frames := 1, cells := 0, slots := 0, locals := 23 }
set_option maxRecDepth 100000 in
set_option maxHeartbeats 4000000 in
theorem c_startEmpty (l : Launch) (D : va_G) (cyI cyZ cyJ : ClassId) (h a1 a2 a3 : Nat) (sc pl : Nat) (ln : Nat → Option Nat) (bn : Nat → Nat) (n : Nat) (dt : Nat → Bool) (hi sw mi hc co : Int32) (s' p' : Nat)  : CtV l yX0_startEmpty wsX0_startEmpty rmX0_startEmpty D (T3 cyI cyZ cyJ) [.ref h, .int (nI s'), .int (nI p')] (CBc cyI cyZ h a1 a2 a3 (sc, pl, ln, bn, n, dt, hi, sw, mi, hc, co)) (CBc cyI cyZ h a1 a2 a3 (cb_empty s' p' (sc, pl, ln, bn, n, dt, hi, sw, mi, hc, co))) := by
  refine CtV.of (cc := cX0_startEmpty) (maxL := 4) (ret := none) (lv0 := [(0, .ref h), (1, .int (nI s')), (2, .int (nI p'))]) (by decide) rfl (Nat.le_of_ble_eq_true rfl) rfl ?_
  intro p e s m below meth c A ls args Q hx hb hml hr hlk hts hown hK hP hA hD hS hl hQ
  have hown : s.vm.findClass RX0 = some m.cls := hown
  have hi_RX0 : ∀ w ∈ wsX00, w ∈ wsX0_startEmpty := by decide +kernel
  have hf_9 := hts (.fieldLink RX0 9 "OutcastBench$CacheAndBench" "lines" "[I") (by decide +kernel)
  have hf_18 := hts (.fieldLink RX0 18 "OutcastBench$CacheAndBench" "dirtyLines" "[Z") (by decide +kernel)
  have hf_26 := hts (.fieldLink RX0 26 "OutcastBench$CacheAndBench" "setCount" "I") (by decide +kernel)
  have hf_30 := hts (.fieldLink RX0 30 "OutcastBench$CacheAndBench" "placeCount" "I") (by decide +kernel)
  have hf_39 := hts (.fieldLink RX0 39 "OutcastBench$CacheAndBench" "seated" "I") (by decide +kernel)
  refine lv_aload_n hx hb dX0_startEmpty_0 rfl (lv_at hl 0 rfl) ?_
  refine lv_iload_n hx hb dX0_startEmpty_1 rfl (lv_at hl 1 rfl) ?_
  refine mq_put (D := D) (ci := 0) (v := .int (nI s')) (ty := .int) (C := RX0) (T := TX0) (N := 11) (ws' := CBc cyI cyZ h a1 a2 a3 (s', pl, ln, bn, n, dt, hi, sw, mi, hc, co)) hx hb hts hi_RX0 tyX0 tyX0_ok nmX0 hown hK hP hD hS 0 rfl rfl 0 (by decide) hf_26 (fun _ h9 => h9) rfl (by decide +kernel) rfl rfl (Nat.le_of_ble_eq_true rfl) dX0_startEmpty_2 rfl (fun H locs hP hD hS => ?_)
  refine lv_aload_n hx hb dX0_startEmpty_5 rfl (lv_at hl 0 rfl) ?_
  refine lv_iload_n hx hb dX0_startEmpty_6 rfl (lv_at hl 2 rfl) ?_
  refine mq_put (D := D) (ci := 0) (v := .int (nI p')) (ty := .int) (C := RX0) (T := TX0) (N := 11) (ws' := CBc cyI cyZ h a1 a2 a3 (s', p', ln, bn, n, dt, hi, sw, mi, hc, co)) hx hb hts hi_RX0 tyX0 tyX0_ok nmX0 hown hK hP hD hS 0 rfl rfl 1 (by decide) hf_30 (fun _ h9 => h9) rfl (by decide +kernel) rfl rfl (Nat.le_of_ble_eq_true rfl) dX0_startEmpty_7 rfl (fun H locs hP hD hS => ?_)
  refine lv_aload_n hx hb dX0_startEmpty_10 rfl (lv_at hl 0 rfl) ?_
  refine va_get (D := D) (ci := 0) (v := .ref a1) (C := RX0) (T := TX0) (N := 11) hx hb hts hi_RX0 hown hK hP 0 rfl rfl 2 (by decide) hf_9 (fun _ h9 => h9) rfl dX0_startEmpty_11 ?_
  refine lv_iconst (v := -1) hx hb dX0_startEmpty_14 (by decide) ?_
  refine CtV.callS (n := 2) (wc := [(a1, .inl (cyI, 16, .inl (fun j => oI (ln j))))]) (wr := [(h, .inr (0, [.int (nI s'), .int (nI p'), .ref a1, .ref a2, .int (nI n), .ref a3, .int hi, .int sw, .int mi, .int hc, .int co])), (a2, .inl (cyI, 8, .inl (fun j => nI (bn j)))), (a3, .inl (cyZ, 256, .inl (fun j => bI (dt j))))]) (w1 := [(a1, .inl (cyI, 16, .inl (fil (fun j => oI (ln j)) 0 16 (-1))))]) (ws' := [(h, .inr (0, [.int (nI s'), .int (nI p'), .ref a1, .ref a2, .int (nI n), .ref a3, .int hi, .int sw, .int mi, .int hc, .int co])), (a1, .inl (cyI, 16, .inl (fil (fun j => oI (ln j)) 0 16 (-1)))), (a2, .inl (cyI, 8, .inl (fun j => nI (bn j)))), (a3, .inl (cyZ, 256, .inl (fun j => bI (dt j))))]) (isC := [1]) (isR := [0, 2, 3]) (ps := [0, 3, 1, 2]) (As := [.ref a1, .int (-1)]) (rest := []) (c_J7_fill l D cyI cyZ cyJ a1 16 (fun j => oI (ln j)) (-1) (Nat.le_of_ble_eq_true rfl)) ⟨hx, hb, hown, hts⟩ gX0_startEmpty_J7_fill_53178 rfl ⟨by decide, by decide, by decide +kernel⟩ ⟨Nat.le_of_ble_eq_true rfl, Nat.le_of_ble_eq_true rfl⟩ ⟨rfl, rfl⟩ hml hl.1 hK hP hD hS hA ⟨rfl, rfl, rfl, rfl, rfl, rfl, rfl⟩ rfl rfl (Nat.le_of_ble_eq_true rfl) ⟨Nat.zero_le _, Nat.zero_le _⟩ dX0_startEmpty_15 (fun H locs hP hD hS => ?_)
  obtain ⟨hP, hD⟩ := mq_row (q0 := 1) (g := fun j => oI ((fun _ => none : Nat → Option Nat) j)) (ws' := CBc cyI cyZ h a1 a2 a3 (s', p', (fun _ => none), bn, n, dt, hi, sw, mi, hc, co)) hP hD rfl (fun k hk => fil_in (Nat.zero_le k) hk) rfl
  refine lv_aload_n hx hb dX0_startEmpty_18 rfl (lv_at hl 0 rfl) ?_
  refine lv_iconst (v := nI 0) hx hb dX0_startEmpty_19 (by decide) ?_
  refine mq_put (D := D) (ci := 0) (v := .int (nI 0)) (ty := .int) (C := RX0) (T := TX0) (N := 11) (ws' := CBc cyI cyZ h a1 a2 a3 (s', p', (fun _ => none), bn, 0, dt, hi, sw, mi, hc, co)) hx hb hts hi_RX0 tyX0 tyX0_ok nmX0 hown hK hP hD hS 0 rfl rfl 4 (by decide) hf_39 (fun _ h9 => h9) rfl (by decide +kernel) rfl rfl (Nat.le_of_ble_eq_true rfl) dX0_startEmpty_20 rfl (fun H locs hP hD hS => ?_)
  refine lv_iconst (v := nI 0) hx hb dX0_startEmpty_23 (by decide) ?_
  refine lv_istore_n (lv' := [(3, .int (nI 0)), (0, .ref h), (1, .int (nI s')), (2, .int (nI p'))]) hx hb dX0_startEmpty_24 rfl hl (by decide) rfl (fun ls hl => ?_)
  rw [show dt = (fil dt 0 0 false) from (fil_0 dt 0 false).symm] at hP hD
  have LP25 : ∀ (fu : Nat) (i : Nat) (H : Heap) (locs : List Loc) (ls : Array Slot), (i ≤ 256) → 256 - i < fu → va_P D vwCl (CBc cyI cyZ h a1 a2 a3 (s', p', (fun _ => none), bn, 0, fil dt 0 i false, hi, sw, mi, hc, co)) H → va_D A (CBc cyI cyZ h a1 a2 a3 (s', p', (fun _ => none), bn, 0, fil dt 0 i false, hi, sw, mi, hc, co)) → va_S A s.heap H locs → lv_has ls 4 [(0, .ref h), (1, .int (nI s')), (2, .int (nI p')), (3, .int (nI i))] → W p l e rmX0_startEmpty s m args below meth c H locs 0 0 Q (F0 m 25 ls []) := by
    intro fu
    induction fu with
    | zero =>
      intro i H locs ls h2 hfu
      exact absurd hfu (Nat.not_lt_zero _)
    | succ fu ih =>
      intro i H locs ls h2 hfu hP hD hS hl
      refine lv_iload_n hx hb dX0_startEmpty_25 rfl (lv_at hl 3 rfl) ?_
      refine lv_sipush (v := nI 256) hx hb dX0_startEmpty_26 (by decide) ?_
      refine mq_ge (x := i) (y := 256) (tgt := 45) (by omega) (by omega) hx hb dX0_startEmpty_29 (by decide) (fun c1 => ?_) (fun c1 => ?_)
      · have e : i = 256 := by omega
        subst e
        obtain ⟨hP, hD⟩ := mq_row (q0 := 3) (g := fun j => bI ((fun _ => false : Nat → Bool) j)) (ws' := CBc cyI cyZ h a1 a2 a3 (s', p', (fun _ => none), bn, 0, (fun _ => false), hi, sw, mi, hc, co)) hP hD rfl (fun k hk => congrArg bI (fil_in (Nat.zero_le k) hk)) rfl
        exact CtV.ret hQ hx hb hr hlk hK hP hD hS dX0_startEmpty_45 rfl
      · refine lv_aload_n hx hb dX0_startEmpty_32 rfl (lv_at hl 0 rfl) ?_
        refine va_get (D := D) (ci := 0) (v := .ref a3) (C := RX0) (T := TX0) (N := 11) hx hb hts hi_RX0 hown hK hP 0 rfl rfl 5 (by decide) hf_18 (fun _ h9 => h9) rfl dX0_startEmpty_33 ?_
        refine lv_iload_n hx hb dX0_startEmpty_36 rfl (lv_at hl 3 rfl) ?_
        refine lv_iconst (v := nI 0) hx hb dX0_startEmpty_37 (by decide) ?_
        refine mq_zst (k := i) (fil dt 0 i false) false (ws' := CBc cyI cyZ h a1 a2 a3 (s', p', (fun _ => none), bn, 0, ru (fil dt 0 i false) i false, hi, sw, mi, hc, co)) hx hb hK hP hD hS 3 1 rfl rfl (by omega) (Nat.le_of_ble_eq_true rfl) dX0_startEmpty_38 rfl (fun H locs hP hD hS => ?_)
        rw [show (ru (fil dt 0 i false) i false) = (fil dt 0 (i + 1) false) from fil_s (Nat.zero_le i)] at hP hD
        refine lv_iinc (v := nI (i + 1)) (lv' := [(3, .int (nI (i + 1))), (0, .ref h), (1, .int (nI s')), (2, .int (nI p'))]) hx hb dX0_startEmpty_39 hl (k := 3) rfl (inc1 _) (by decide) rfl (fun ls hl => ?_)
        refine lv_goto (tgt := 25) hx hb dX0_startEmpty_42 (by decide) ?_
        exact ih (i + 1) _ _ _ (by omega) (by omega) hP hD hS (lv_sub hl [1, 2, 3, 0] rfl)
  exact LP25 _ 0 _ _ _ (Nat.zero_le _) (Nat.lt_succ_self _) hP hD hS (lv_sub hl [1, 2, 3, 0] rfl)
abbrev rmX0_countLines : Room := { frames := 0, cells := 0, slots := 0, locals := 0 }
set_option maxRecDepth 100000 in
set_option maxHeartbeats 4000000 in
theorem c_countLines (l : Launch) (D : va_G) (cyI cyZ cyJ : ClassId) (h a1 a2 a3 : Nat) (sc pl : Nat) (ln : Nat → Option Nat) (bn : Nat → Nat) (n : Nat) (dt : Nat → Bool) (hi sw mi hc co : Int32) (hbd : cb_bd (sc, pl, ln, bn, n, dt, hi, sw, mi, hc, co)) : CtI l yX0_countLines wsX0_countLines rmX0_countLines D (T3 cyI cyZ cyJ) [.ref h] (CBc cyI cyZ h a1 a2 a3 (sc, pl, ln, bn, n, dt, hi, sw, mi, hc, co)) (nI (n + cnt (fun s => (ln s).isSome) sc)) (CBc cyI cyZ h a1 a2 a3 (sc, pl, ln, bn, n, dt, hi, sw, mi, hc, co)) := by
  refine CtI.of (cc := cX0_countLines) (maxL := 3) (ret := (some .int)) (lv0 := [(0, .ref h)]) (by decide) rfl (Nat.le_of_ble_eq_true rfl) rfl ?_
  intro p e s m below meth c A ls args Q hx hb hml hr hlk hts hown hK hP hA hD hS hl hQ
  have hown : s.vm.findClass RX0 = some m.cls := hown
  have hi_RX0 : ∀ w ∈ wsX00, w ∈ wsX0_countLines := by decide +kernel
  have hf_9 := hts (.fieldLink RX0 9 "OutcastBench$CacheAndBench" "lines" "[I") (by decide +kernel)
  have hf_26 := hts (.fieldLink RX0 26 "OutcastBench$CacheAndBench" "setCount" "I") (by decide +kernel)
  have hf_39 := hts (.fieldLink RX0 39 "OutcastBench$CacheAndBench" "seated" "I") (by decide +kernel)
  obtain ⟨hsc, hpl, hn8, hln, hb8⟩ := hbd
  refine lv_aload_n hx hb dX0_countLines_0 rfl (lv_at hl 0 rfl) ?_
  refine va_get (D := D) (ci := 0) (v := .int (nI n)) (C := RX0) (T := TX0) (N := 11) hx hb hts hi_RX0 hown hK hP 0 rfl rfl 4 (by decide) hf_39 (fun _ h9 => h9) rfl dX0_countLines_1 ?_
  refine lv_istore_n (lv' := [(1, .int (nI n)), (0, .ref h)]) hx hb dX0_countLines_4 rfl hl (by decide) rfl (fun ls hl => ?_)
  refine lv_iconst (v := nI 0) hx hb dX0_countLines_5 (by decide) ?_
  refine lv_istore_n (lv' := [(2, .int (nI 0)), (1, .int (nI n)), (0, .ref h)]) hx hb dX0_countLines_6 rfl hl (by decide) rfl (fun ls hl => ?_)
  have LP7 : ∀ (fu : Nat) (i : Nat) (k : Nat) (H : Heap) (locs : List Loc) (ls : Array Slot), (i ≤ sc) → (k = n + cnt (fun s => (ln s).isSome) i) → sc - i < fu → va_P D vwCl (CBc cyI cyZ h a1 a2 a3 (sc, pl, ln, bn, n, dt, hi, sw, mi, hc, co)) H → va_D A (CBc cyI cyZ h a1 a2 a3 (sc, pl, ln, bn, n, dt, hi, sw, mi, hc, co)) → va_S A s.heap H locs → lv_has ls 3 [(0, .ref h), (1, .int (nI k)), (2, .int (nI i))] → W p l e rmX0_countLines s m args below meth c H locs 0 0 Q (F0 m 7 ls []) := by
    intro fu
    induction fu with
    | zero =>
      intro i k H locs ls h2 hk0 hfu
      exact absurd hfu (Nat.not_lt_zero _)
    | succ fu ih =>
      intro i k H locs ls h2 hk0 hfu hP hD hS hl
      refine lv_iload_n hx hb dX0_countLines_7 rfl (lv_at hl 2 rfl) ?_
      refine lv_aload_n hx hb dX0_countLines_8 rfl (lv_at hl 0 rfl) ?_
      refine va_get (D := D) (ci := 0) (v := .int (nI sc)) (C := RX0) (T := TX0) (N := 11) hx hb hts hi_RX0 hown hK hP 0 rfl rfl 0 (by decide) hf_26 (fun _ h9 => h9) rfl dX0_countLines_9 ?_
      refine mq_ge (x := i) (y := sc) (tgt := 34) (by omega) (by omega) hx hb dX0_countLines_12 (by decide) (fun c1 => ?_) (fun c1 => ?_)
      · have e : i = sc := by omega
        subst e
        refine lv_iload_n hx hb dX0_countLines_34 rfl (lv_at hl 1 rfl) ?_
        exact CtI.ret hQ hx hb hr hlk hK hP hD hS dX0_countLines_35 (by rw [hk0]) rfl
      · refine lv_aload_n hx hb dX0_countLines_15 rfl (lv_at hl 0 rfl) ?_
        refine va_get (D := D) (ci := 0) (v := .ref a1) (C := RX0) (T := TX0) (N := 11) hx hb hts hi_RX0 hown hK hP 0 rfl rfl 2 (by decide) hf_9 (fun _ h9 => h9) rfl dX0_countLines_16 ?_
        refine lv_iload_n hx hb dX0_countLines_19 rfl (lv_at hl 2 rfl) ?_
        refine mq_ld (k := i) oI ln hx hb hK hP 1 0 rfl rfl (by omega) (Nat.le_of_ble_eq_true rfl) dX0_countLines_20 ?_
        rcases hls : ln i with _ | q
        · refine lv_iconst (v := -1) hx hb dX0_countLines_21 (by decide) ?_
          refine lv_icmp_eq (x := oI none) (y := -1) (tgt := 28) hx hb dX0_countLines_22 (by decide) (fun c2 => ?_) (fun c2 => ?_)
          · refine lv_iinc (v := nI (i + 1)) (lv' := [(2, .int (nI (i + 1))), (0, .ref h), (1, .int (nI k))]) hx hb dX0_countLines_28 hl (k := 2) rfl (inc1 _) (by decide) rfl (fun ls hl => ?_)
            refine lv_goto (tgt := 7) hx hb dX0_countLines_31 (by decide) ?_
            exact ih (i + 1) k _ _ _ (by omega) (by rw [cnt_n (by simp [hls])]; exact hk0) (by omega) hP hD hS (lv_sub hl [1, 2, 0] rfl)
          · exact absurd rfl c2
        · have hq : q < 256 := hln i q hls
          refine lv_iconst (v := -1) hx hb dX0_countLines_21 (by decide) ?_
          refine lv_icmp_eq (x := nI q) (y := -1) (tgt := 28) hx hb dX0_countLines_22 (by decide) (fun c2 => ?_) (fun c2 => ?_)
          · exact absurd c2 (nI_m1 (by omega))
          · refine lv_iinc (v := nI (k + 1)) (lv' := [(1, .int (nI (k + 1))), (0, .ref h), (2, .int (nI i))]) hx hb dX0_countLines_25 hl (k := 1) rfl (inc1 _) (by decide) rfl (fun ls hl => ?_)
            refine lv_iinc (v := nI (i + 1)) (lv' := [(2, .int (nI (i + 1))), (1, .int (nI (k + 1))), (0, .ref h)]) hx hb dX0_countLines_28 hl (k := 2) rfl (inc1 _) (by decide) rfl (fun ls hl => ?_)
            refine lv_goto (tgt := 7) hx hb dX0_countLines_31 (by decide) ?_
            exact ih (i + 1) (k + 1) _ _ _ (by omega) (by rw [cnt_s (by simp [hls]), hk0]; omega) (by omega) hP hD hS (lv_sub hl [2, 1, 0] rfl)
  exact LP7 _ 0 n _ _ _ (Nat.zero_le _) rfl (Nat.lt_succ_self _) hP hD hS (lv_sub hl [2, 1, 0] rfl)
abbrev rmX0_countDirty : Room := { frames := 0, cells := 0, slots := 0, locals := 0 }
set_option maxRecDepth 100000 in
set_option maxHeartbeats 4000000 in
theorem c_countDirty (l : Launch) (D : va_G) (cyI cyZ cyJ : ClassId) (h a1 a2 a3 : Nat) (sc pl : Nat) (ln : Nat → Option Nat) (bn : Nat → Nat) (n : Nat) (dt : Nat → Bool) (hi sw mi hc co : Int32)  : CtI l yX0_countDirty wsX0_countDirty rmX0_countDirty D (T3 cyI cyZ cyJ) [.ref h] (CBc cyI cyZ h a1 a2 a3 (sc, pl, ln, bn, n, dt, hi, sw, mi, hc, co)) (nI (cnt dt 256)) (CBc cyI cyZ h a1 a2 a3 (sc, pl, ln, bn, n, dt, hi, sw, mi, hc, co)) := by
  refine CtI.of (cc := cX0_countDirty) (maxL := 3) (ret := (some .int)) (lv0 := [(0, .ref h)]) (by decide) rfl (Nat.le_of_ble_eq_true rfl) rfl ?_
  intro p e s m below meth c A ls args Q hx hb hml hr hlk hts hown hK hP hA hD hS hl hQ
  have hown : s.vm.findClass RX0 = some m.cls := hown
  have hi_RX0 : ∀ w ∈ wsX00, w ∈ wsX0_countDirty := by decide +kernel
  have hf_18 := hts (.fieldLink RX0 18 "OutcastBench$CacheAndBench" "dirtyLines" "[Z") (by decide +kernel)
  refine lv_iconst (v := nI 0) hx hb dX0_countDirty_0 (by decide) ?_
  refine lv_istore_n (lv' := [(1, .int (nI 0)), (0, .ref h)]) hx hb dX0_countDirty_1 rfl hl (by decide) rfl (fun ls hl => ?_)
  refine lv_iconst (v := nI 0) hx hb dX0_countDirty_2 (by decide) ?_
  refine lv_istore_n (lv' := [(2, .int (nI 0)), (1, .int (nI 0)), (0, .ref h)]) hx hb dX0_countDirty_3 rfl hl (by decide) rfl (fun ls hl => ?_)
  have LP4 : ∀ (fu : Nat) (i : Nat) (k : Nat) (H : Heap) (locs : List Loc) (ls : Array Slot), (i ≤ 256) → (k = cnt dt i) → 256 - i < fu → va_P D vwCl (CBc cyI cyZ h a1 a2 a3 (sc, pl, ln, bn, n, dt, hi, sw, mi, hc, co)) H → va_D A (CBc cyI cyZ h a1 a2 a3 (sc, pl, ln, bn, n, dt, hi, sw, mi, hc, co)) → va_S A s.heap H locs → lv_has ls 3 [(0, .ref h), (1, .int (nI k)), (2, .int (nI i))] → W p l e rmX0_countDirty s m args below meth c H locs 0 0 Q (F0 m 4 ls []) := by
    intro fu
    induction fu with
    | zero =>
      intro i k H locs ls h2 hk0 hfu
      exact absurd hfu (Nat.not_lt_zero _)
    | succ fu ih =>
      intro i k H locs ls h2 hk0 hfu hP hD hS hl
      refine lv_iload_n hx hb dX0_countDirty_4 rfl (lv_at hl 2 rfl) ?_
      refine lv_sipush (v := nI 256) hx hb dX0_countDirty_5 (by decide) ?_
      refine mq_ge (x := i) (y := 256) (tgt := 29) (by omega) (by omega) hx hb dX0_countDirty_8 (by decide) (fun c1 => ?_) (fun c1 => ?_)
      · have e : i = 256 := by omega
        subst e
        refine lv_iload_n hx hb dX0_countDirty_29 rfl (lv_at hl 1 rfl) ?_
        exact CtI.ret hQ hx hb hr hlk hK hP hD hS dX0_countDirty_30 (by rw [hk0]) rfl
      · refine lv_aload_n hx hb dX0_countDirty_11 rfl (lv_at hl 0 rfl) ?_
        refine va_get (D := D) (ci := 0) (v := .ref a3) (C := RX0) (T := TX0) (N := 11) hx hb hts hi_RX0 hown hK hP 0 rfl rfl 5 (by decide) hf_18 (fun _ h9 => h9) rfl dX0_countDirty_12 ?_
        refine lv_iload_n hx hb dX0_countDirty_15 rfl (lv_at hl 2 rfl) ?_
        refine mq_zld (k := i) dt hx hb hK hP 3 1 rfl rfl (by omega) (Nat.le_of_ble_eq_true rfl) dX0_countDirty_16 ?_
        refine mq_bz (b := (dt i)) (tgt := 23) hx hb dX0_countDirty_17 (by decide) (fun c2 => ?_) (fun c2 => ?_)
        · refine lv_iinc (v := nI (i + 1)) (lv' := [(2, .int (nI (i + 1))), (0, .ref h), (1, .int (nI k))]) hx hb dX0_countDirty_23 hl (k := 2) rfl (inc1 _) (by decide) rfl (fun ls hl => ?_)
          refine lv_goto (tgt := 4) hx hb dX0_countDirty_26 (by decide) ?_
          exact ih (i + 1) k _ _ _ (by omega) (by rw [cnt_n c2]; exact hk0) (by omega) hP hD hS (lv_sub hl [1, 2, 0] rfl)
        · refine lv_iinc (v := nI (k + 1)) (lv' := [(1, .int (nI (k + 1))), (0, .ref h), (2, .int (nI i))]) hx hb dX0_countDirty_20 hl (k := 1) rfl (inc1 _) (by decide) rfl (fun ls hl => ?_)
          refine lv_iinc (v := nI (i + 1)) (lv' := [(2, .int (nI (i + 1))), (1, .int (nI (k + 1))), (0, .ref h)]) hx hb dX0_countDirty_23 hl (k := 2) rfl (inc1 _) (by decide) rfl (fun ls hl => ?_)
          refine lv_goto (tgt := 4) hx hb dX0_countDirty_26 (by decide) ?_
          exact ih (i + 1) (k + 1) _ _ _ (by omega) (by rw [cnt_s c2, hk0]) (by omega) hP hD hS (lv_sub hl [2, 1, 0] rfl)
  exact LP4 _ 0 0 _ _ _ (Nat.zero_le _) rfl (Nat.lt_succ_self _) hP hD hS (lv_sub hl [2, 1, 0] rfl)
abbrev rmX0_whereIs : Room := { frames := 1, cells := 0, slots := 0, locals := 22 }
set_option maxRecDepth 100000 in
set_option maxHeartbeats 4000000 in
theorem c_whereIs (l : Launch) (D : va_G) (cyI cyZ cyJ : ClassId) (h a1 a2 a3 : Nat) (sc pl : Nat) (ln : Nat → Option Nat) (bn : Nat → Nat) (n : Nat) (dt : Nat → Bool) (hi sw mi hc co : Int32) (q : Nat) (hbd : cb_bd (sc, pl, ln, bn, n, dt, hi, sw, mi, hc, co)) (hq : q < 256) : CtI l yX0_whereIs wsX0_whereIs rmX0_whereIs D (T3 cyI cyZ cyJ) [.ref h, .int (nI q)] (CBc cyI cyZ h a1 a2 a3 (sc, pl, ln, bn, n, dt, hi, sw, mi, hc, co)) (nI (cb_where q (sc, pl, ln, bn, n, dt, hi, sw, mi, hc, co))) (CBc cyI cyZ h a1 a2 a3 (sc, pl, ln, bn, n, dt, hi, sw, mi, hc, co)) := by
  refine CtI.of (cc := cX0_whereIs) (maxL := 2) (ret := (some .int)) (lv0 := [(0, .ref h), (1, .int (nI q))]) (by decide) rfl (Nat.le_of_ble_eq_true rfl) rfl ?_
  intro p e s m below meth c A ls args Q hx hb hml hr hlk hts hown hK hP hA hD hS hl hQ
  have hown : s.vm.findClass RX0 = some m.cls := hown
  have hi_RX0 : ∀ w ∈ wsX00, w ∈ wsX0_whereIs := by decide +kernel
  have hf_9 := hts (.fieldLink RX0 9 "OutcastBench$CacheAndBench" "lines" "[I") (by decide +kernel)
  have hbd0 := hbd
  obtain ⟨hsc, hpl, hn8, hln, hb8⟩ := hbd0
  have hs16 := mod16 q hsc
  refine lv_aload_n hx hb dX0_whereIs_0 rfl (lv_at hl 0 rfl) ?_
  refine va_get (D := D) (ci := 0) (v := .ref a1) (C := RX0) (T := TX0) (N := 11) hx hb hts hi_RX0 hown hK hP 0 rfl rfl 2 (by decide) hf_9 (fun _ h9 => h9) rfl dX0_whereIs_1 ?_
  refine lv_aload_n hx hb dX0_whereIs_4 rfl (lv_at hl 0 rfl) ?_
  refine lv_iload_n hx hb dX0_whereIs_5 rfl (lv_at hl 1 rfl) ?_
  refine CtI.callV (n := 1) (q0 := 0) (ci := 0) (wc := CBc cyI cyZ h a1 a2 a3 (sc, pl, ln, bn, n, dt, hi, sw, mi, hc, co)) (wr := ([] : va_W)) (w1 := CBc cyI cyZ h a1 a2 a3 (sc, pl, ln, bn, n, dt, hi, sw, mi, hc, co)) (ws' := CBc cyI cyZ h a1 a2 a3 (sc, pl, ln, bn, n, dt, hi, sw, mi, hc, co)) (isC := [0, 1, 2, 3]) (isR := []) (ps := [0, 1, 2, 3]) (As := [.int (nI q)]) (rest := [.ref a1]) (c_setOf l D cyI cyZ cyJ h a1 a2 a3 sc pl ln bn n dt hi sw mi hc co q hsc hq) ⟨hx, hb, hown, hts⟩ gX0_whereIs_X0_setOf rfl ⟨rfl, by decide, by decide, by decide +kernel⟩ ⟨Nat.le_of_ble_eq_true rfl, Nat.le_of_ble_eq_true rfl⟩ ⟨rfl, rfl⟩ hml hl.1 hK hP hD hS hA ⟨rfl, rfl, rfl, rfl, rfl, rfl, rfl⟩ rfl ⟨rfl, rfl⟩ rfl rfl (Nat.le_of_ble_eq_true rfl) ⟨Nat.zero_le _, Nat.zero_le _⟩ dX0_whereIs_6 (fun H locs hP hD hS => ?_)
  refine mq_ld (k := (q % sc)) oI ln hx hb hK hP 1 0 rfl rfl hs16 (Nat.le_of_ble_eq_true rfl) dX0_whereIs_9 ?_
  rcases hls : ln (q % sc) with _ | r
  · refine lv_iload_n hx hb dX0_whereIs_10 rfl (lv_at hl 1 rfl) ?_
    refine lv_icmp_ne (x := oI none) (y := nI q) (tgt := 16) hx hb dX0_whereIs_11 (by decide) (fun c1 => ?_) (fun c1 => ?_)
    · have hnh : ¬ ln (q % sc) = some q := by rw [hls]; simp
      refine lv_aload_n hx hb dX0_whereIs_16 rfl (lv_at hl 0 rfl) ?_
      refine lv_iload_n hx hb dX0_whereIs_17 rfl (lv_at hl 1 rfl) ?_
      refine CtI.callV (n := 1) (q0 := 0) (ci := 0) (wc := CBc cyI cyZ h a1 a2 a3 (sc, pl, ln, bn, n, dt, hi, sw, mi, hc, co)) (wr := ([] : va_W)) (w1 := CBc cyI cyZ h a1 a2 a3 (sc, pl, ln, bn, n, dt, hi, sw, mi, hc, co)) (ws' := CBc cyI cyZ h a1 a2 a3 (sc, pl, ln, bn, n, dt, hi, sw, mi, hc, co)) (isC := [0, 1, 2, 3]) (isR := []) (ps := [0, 1, 2, 3]) (As := [.int (nI q)]) (rest := []) (c_seatOf l D cyI cyZ cyJ h a1 a2 a3 sc pl ln bn n dt hi sw mi hc co q hn8 hb8 hq) ⟨hx, hb, hown, hts⟩ gX0_whereIs_X0_seatOf rfl ⟨rfl, by decide, by decide, by decide +kernel⟩ ⟨Nat.le_of_ble_eq_true rfl, Nat.le_of_ble_eq_true rfl⟩ ⟨rfl, rfl⟩ hml hl.1 hK hP hD hS hA ⟨rfl, rfl, rfl, rfl, rfl, rfl, rfl⟩ rfl ⟨rfl, rfl⟩ rfl rfl (Nat.le_of_ble_eq_true rfl) ⟨Nat.zero_le _, Nat.zero_le _⟩ dX0_whereIs_18 (fun H locs hP hD hS => ?_)
      rcases hse : fnd (fun k => decide (bn k = q)) n with _ | k
      · refine lv_iconst (v := -1) hx hb dX0_whereIs_21 (by decide) ?_
        refine lv_icmp_ne (x := oI none) (y := -1) (tgt := 29) hx hb dX0_whereIs_22 (by decide) (fun c3 => ?_) (fun c3 => ?_)
        · exact absurd rfl c3
        · refine lv_iconst (v := nI 0) hx hb dX0_whereIs_25 (by decide) ?_
          refine lv_goto (tgt := 30) hx hb dX0_whereIs_26 (by decide) ?_
          exact CtI.ret hQ hx hb hr hlk hK hP hD hS dX0_whereIs_30 (by unfold cb_where; dsimp only; rw [if_neg hnh, hse]; rfl) rfl
      · obtain ⟨hkn, hkq, -⟩ := fnd_of_some hse
        refine lv_iconst (v := -1) hx hb dX0_whereIs_21 (by decide) ?_
        refine lv_icmp_ne (x := nI k) (y := -1) (tgt := 29) hx hb dX0_whereIs_22 (by decide) (fun c3 => ?_) (fun c3 => ?_)
        · refine lv_iconst (v := nI 2) hx hb dX0_whereIs_29 (by decide) ?_
          exact CtI.ret hQ hx hb hr hlk hK hP hD hS dX0_whereIs_30 (by unfold cb_where; dsimp only; rw [if_neg hnh, hse]; rfl) rfl
        · exact absurd c3 (nI_m1 (by omega))
    · exact absurd (show nI q = -1 by first | exact c1.symm | (by_cases hh : oI none = nI q; exact hh.symm; exact absurd hh c1)) (nI_m1 (by omega))
  · have hrr : r < 256 := hln _ r hls
    refine lv_iload_n hx hb dX0_whereIs_10 rfl (lv_at hl 1 rfl) ?_
    refine mq_ne (x := r) (y := q) (tgt := 16) (by omega) (by omega) hx hb dX0_whereIs_11 (by decide) (fun c1 => ?_) (fun c1 => ?_)
    · have hnh : ¬ ln (q % sc) = some q := by rw [hls]; simpa using c1
      refine lv_aload_n hx hb dX0_whereIs_16 rfl (lv_at hl 0 rfl) ?_
      refine lv_iload_n hx hb dX0_whereIs_17 rfl (lv_at hl 1 rfl) ?_
      refine CtI.callV (n := 1) (q0 := 0) (ci := 0) (wc := CBc cyI cyZ h a1 a2 a3 (sc, pl, ln, bn, n, dt, hi, sw, mi, hc, co)) (wr := ([] : va_W)) (w1 := CBc cyI cyZ h a1 a2 a3 (sc, pl, ln, bn, n, dt, hi, sw, mi, hc, co)) (ws' := CBc cyI cyZ h a1 a2 a3 (sc, pl, ln, bn, n, dt, hi, sw, mi, hc, co)) (isC := [0, 1, 2, 3]) (isR := []) (ps := [0, 1, 2, 3]) (As := [.int (nI q)]) (rest := []) (c_seatOf l D cyI cyZ cyJ h a1 a2 a3 sc pl ln bn n dt hi sw mi hc co q hn8 hb8 hq) ⟨hx, hb, hown, hts⟩ gX0_whereIs_X0_seatOf rfl ⟨rfl, by decide, by decide, by decide +kernel⟩ ⟨Nat.le_of_ble_eq_true rfl, Nat.le_of_ble_eq_true rfl⟩ ⟨rfl, rfl⟩ hml hl.1 hK hP hD hS hA ⟨rfl, rfl, rfl, rfl, rfl, rfl, rfl⟩ rfl ⟨rfl, rfl⟩ rfl rfl (Nat.le_of_ble_eq_true rfl) ⟨Nat.zero_le _, Nat.zero_le _⟩ dX0_whereIs_18 (fun H locs hP hD hS => ?_)
      rcases hse : fnd (fun k => decide (bn k = q)) n with _ | k
      · refine lv_iconst (v := -1) hx hb dX0_whereIs_21 (by decide) ?_
        refine lv_icmp_ne (x := oI none) (y := -1) (tgt := 29) hx hb dX0_whereIs_22 (by decide) (fun c3 => ?_) (fun c3 => ?_)
        · exact absurd rfl c3
        · refine lv_iconst (v := nI 0) hx hb dX0_whereIs_25 (by decide) ?_
          refine lv_goto (tgt := 30) hx hb dX0_whereIs_26 (by decide) ?_
          exact CtI.ret hQ hx hb hr hlk hK hP hD hS dX0_whereIs_30 (by unfold cb_where; dsimp only; rw [if_neg hnh, hse]; rfl) rfl
      · obtain ⟨hkn, hkq, -⟩ := fnd_of_some hse
        refine lv_iconst (v := -1) hx hb dX0_whereIs_21 (by decide) ?_
        refine lv_icmp_ne (x := nI k) (y := -1) (tgt := 29) hx hb dX0_whereIs_22 (by decide) (fun c3 => ?_) (fun c3 => ?_)
        · refine lv_iconst (v := nI 2) hx hb dX0_whereIs_29 (by decide) ?_
          exact CtI.ret hQ hx hb hr hlk hK hP hD hS dX0_whereIs_30 (by unfold cb_where; dsimp only; rw [if_neg hnh, hse]; rfl) rfl
        · exact absurd c3 (nI_m1 (by omega))
    · subst c1
      refine lv_iconst (v := nI 1) hx hb dX0_whereIs_14 (by decide) ?_
      exact CtI.ret hQ hx hb hr hlk hK hP hD hS dX0_whereIs_15 (by unfold cb_where; dsimp only; rw [if_pos hls]) rfl
abbrev rmX0_bringAllHome : Room := { frames := 1, cells := 0, slots := 0, locals := 21 }
set_option maxRecDepth 100000 in
set_option maxHeartbeats 4000000 in
theorem c_bring (l : Launch) (D : va_G) (cyI cyZ cyJ : ClassId) (h a1 a2 a3 : Nat) (sc pl : Nat) (ln : Nat → Option Nat) (bn : Nat → Nat) (n : Nat) (dt : Nat → Bool) (hi sw mi hc co : Int32) (hbd : cb_bd (sc, pl, ln, bn, n, dt, hi, sw, mi, hc, co)) : CtI l yX0_bringAllHome wsX0_bringAllHome rmX0_bringAllHome D (T3 cyI cyZ cyJ) [.ref h] (CBc cyI cyZ h a1 a2 a3 (sc, pl, ln, bn, n, dt, hi, sw, mi, hc, co)) (cb_hc (cb_bring (sc, pl, ln, bn, n, dt, hi, sw, mi, hc, co)) - hc) (CBc cyI cyZ h a1 a2 a3 (cb_bring (sc, pl, ln, bn, n, dt, hi, sw, mi, hc, co))) := by
  refine CtI.of (cc := cX0_bringAllHome) (maxL := 3) (ret := (some .int)) (lv0 := [(0, .ref h)]) (by decide) rfl (Nat.le_of_ble_eq_true rfl) rfl ?_
  intro p e s m below meth c A ls args Q hx hb hml hr hlk hts hown hK hP hA hD hS hl hQ
  have hown : s.vm.findClass RX0 = some m.cls := hown
  have hi_RX0 : ∀ w ∈ wsX00, w ∈ wsX0_bringAllHome := by decide +kernel
  have hf_9 := hts (.fieldLink RX0 9 "OutcastBench$CacheAndBench" "lines" "[I") (by decide +kernel)
  have hf_15 := hts (.fieldLink RX0 15 "OutcastBench$CacheAndBench" "bench" "[I") (by decide +kernel)
  have hf_26 := hts (.fieldLink RX0 26 "OutcastBench$CacheAndBench" "setCount" "I") (by decide +kernel)
  have hf_39 := hts (.fieldLink RX0 39 "OutcastBench$CacheAndBench" "seated" "I") (by decide +kernel)
  have hf_71 := hts (.fieldLink RX0 71 "OutcastBench$CacheAndBench" "homecomingCount" "I") (by decide +kernel)
  obtain ⟨hsc, hpl, hn8, hln, hb8⟩ := hbd
  refine lv_aload_n hx hb dX0_bringAllHome_0 rfl (lv_at hl 0 rfl) ?_
  refine va_get (D := D) (ci := 0) (v := .int hc) (C := RX0) (T := TX0) (N := 11) hx hb hts hi_RX0 hown hK hP 0 rfl rfl 9 (by decide) hf_71 (fun _ h9 => h9) rfl dX0_bringAllHome_1 ?_
  refine lv_istore_n (lv' := [(1, .int hc), (0, .ref h)]) hx hb dX0_bringAllHome_4 rfl hl (by decide) rfl (fun ls hl => ?_)
  refine lv_iconst (v := nI 0) hx hb dX0_bringAllHome_5 (by decide) ?_
  refine lv_istore_n (lv' := [(2, .int (nI 0)), (1, .int hc), (0, .ref h)]) hx hb dX0_bringAllHome_6 rfl hl (by decide) rfl (fun ls hl => ?_)
  have LP7 : ∀ (fu : Nat) (i : Nat) (dti : Nat → Bool) (hci : Int32) (coi : Int32) (H : Heap) (locs : List Loc) (ls : Array Slot), (i ≤ sc) → (cb_bhS i (sc, pl, ln, bn, n, dt, hi, sw, mi, hc, co) = (sc, pl, ln, bn, n, dti, hi, sw, mi, hci, coi)) → sc - i < fu → va_P D vwCl (CBc cyI cyZ h a1 a2 a3 (sc, pl, ln, bn, n, dti, hi, sw, mi, hci, coi)) H → va_D A (CBc cyI cyZ h a1 a2 a3 (sc, pl, ln, bn, n, dti, hi, sw, mi, hci, coi)) → va_S A s.heap H locs → lv_has ls 3 [(0, .ref h), (1, .int hc), (2, .int (nI i))] → W p l e rmX0_bringAllHome s m args below meth c H locs 0 0 Q (F0 m 7 ls []) := by
    intro fu
    induction fu with
    | zero =>
      intro i dti hci coi H locs ls h2 hei hfu
      exact absurd hfu (Nat.not_lt_zero _)
    | succ fu ih =>
      intro i dti hci coi H locs ls h2 hei hfu hP hD hS hl
      refine lv_iload_n hx hb dX0_bringAllHome_7 rfl (lv_at hl 2 rfl) ?_
      refine lv_aload_n hx hb dX0_bringAllHome_8 rfl (lv_at hl 0 rfl) ?_
      refine va_get (D := D) (ci := 0) (v := .int (nI sc)) (C := RX0) (T := TX0) (N := 11) hx hb hts hi_RX0 hown hK hP 0 rfl rfl 0 (by decide) hf_26 (fun _ h9 => h9) rfl dX0_bringAllHome_9 ?_
      refine mq_ge (x := i) (y := sc) (tgt := 41) (by omega) (by omega) hx hb dX0_bringAllHome_12 (by decide) (fun c1 => ?_) (fun c1 => ?_)
      · have e : i = sc := by omega
        subst e
        refine lv_iconst (v := nI 0) hx hb dX0_bringAllHome_41 (by decide) ?_
        refine lv_istore_n (lv' := [(2, .int (nI 0)), (0, .ref h), (1, .int hc)]) hx hb dX0_bringAllHome_42 rfl hl (by decide) rfl (fun ls hl => ?_)
        have LP43 : ∀ (fu : Nat) (j : Nat) (dtj : Nat → Bool) (hcj : Int32) (coj : Int32) (H : Heap) (locs : List Loc) (ls : Array Slot), (j ≤ n) → (cb_bhB bn j (i, pl, ln, bn, n, dti, hi, sw, mi, hci, coi) = (i, pl, ln, bn, n, dtj, hi, sw, mi, hcj, coj)) → n - j < fu → va_P D vwCl (CBc cyI cyZ h a1 a2 a3 (i, pl, ln, bn, n, dtj, hi, sw, mi, hcj, coj)) H → va_D A (CBc cyI cyZ h a1 a2 a3 (i, pl, ln, bn, n, dtj, hi, sw, mi, hcj, coj)) → va_S A s.heap H locs → lv_has ls 3 [(0, .ref h), (1, .int hc), (2, .int (nI j))] → W p l e rmX0_bringAllHome s m args below meth c H locs 0 0 Q (F0 m 43 ls []) := by
          intro fu
          induction fu with
          | zero =>
            intro j dtj hcj coj H locs ls h3 hej hfu
            exact absurd hfu (Nat.not_lt_zero _)
          | succ fu ih =>
            intro j dtj hcj coj H locs ls h3 hej hfu hP hD hS hl
            refine lv_iload_n hx hb dX0_bringAllHome_43 rfl (lv_at hl 2 rfl) ?_
            refine lv_aload_n hx hb dX0_bringAllHome_44 rfl (lv_at hl 0 rfl) ?_
            refine va_get (D := D) (ci := 0) (v := .int (nI n)) (C := RX0) (T := TX0) (N := 11) hx hb hts hi_RX0 hown hK hP 0 rfl rfl 4 (by decide) hf_39 (fun _ h9 => h9) rfl dX0_bringAllHome_45 ?_
            refine mq_ge (x := j) (y := n) (tgt := 67) (by omega) (by omega) hx hb dX0_bringAllHome_48 (by decide) (fun c3 => ?_) (fun c3 => ?_)
            · have e : j = n := by omega
              subst e
              refine lv_aload_n hx hb dX0_bringAllHome_67 rfl (lv_at hl 0 rfl) ?_
              refine va_get (D := D) (ci := 0) (v := .int hcj) (C := RX0) (T := TX0) (N := 11) hx hb hts hi_RX0 hown hK hP 0 rfl rfl 9 (by decide) hf_71 (fun _ h9 => h9) rfl dX0_bringAllHome_68 ?_
              refine lv_iload_n hx hb dX0_bringAllHome_71 rfl (lv_at hl 1 rfl) ?_
              refine lv_isub (x := hcj) (y := hc) hx hb dX0_bringAllHome_72 ?_
              exact CtI.ret hQ hx hb hr hlk hK hP hD hS dX0_bringAllHome_73 (by rw [(show cb_bring (i, pl, ln, bn, j, dt, hi, sw, mi, hc, co) = (i, pl, ln, bn, j, dtj, hi, sw, mi, hcj, coj) from by unfold cb_bring; dsimp only; rw [hei, hej])]; rfl) (by rw [(show cb_bring (i, pl, ln, bn, j, dt, hi, sw, mi, hc, co) = (i, pl, ln, bn, j, dtj, hi, sw, mi, hcj, coj) from by unfold cb_bring; dsimp only; rw [hei, hej])])
            · refine lv_aload_n hx hb dX0_bringAllHome_51 rfl (lv_at hl 0 rfl) ?_
              refine lv_aload_n hx hb dX0_bringAllHome_52 rfl (lv_at hl 0 rfl) ?_
              refine va_get (D := D) (ci := 0) (v := .ref a2) (C := RX0) (T := TX0) (N := 11) hx hb hts hi_RX0 hown hK hP 0 rfl rfl 3 (by decide) hf_15 (fun _ h9 => h9) rfl dX0_bringAllHome_53 ?_
              refine lv_iload_n hx hb dX0_bringAllHome_56 rfl (lv_at hl 2 rfl) ?_
              refine mq_ld (k := j) nI bn hx hb hK hP 2 0 rfl rfl (by omega) (Nat.le_of_ble_eq_true rfl) dX0_bringAllHome_57 ?_
              refine CtV.callV (n := 1) (q0 := 0) (ci := 0) (wc := CBc cyI cyZ h a1 a2 a3 (i, pl, ln, bn, n, dtj, hi, sw, mi, hcj, coj)) (wr := ([] : va_W)) (w1 := CBc cyI cyZ h a1 a2 a3 (i, pl, ln, bn, n, ru dtj (bn j) false, hi, sw, mi, hcj + cI (dtj (bn j)) 1, coj + cI (dtj (bn j)) 10)) (ws' := CBc cyI cyZ h a1 a2 a3 (i, pl, ln, bn, n, ru dtj (bn j) false, hi, sw, mi, hcj + cI (dtj (bn j)) 1, coj + cI (dtj (bn j)) 10)) (isC := [0, 1, 2, 3]) (isR := []) (ps := [0, 1, 2, 3]) (As := [.int (nI (bn j))]) (rest := []) (c_bh l D cyI cyZ cyJ h a1 a2 a3 i pl ln bn n dtj hi sw mi hcj coj (bn j) (hb8 j (by omega))) ⟨hx, hb, hown, hts⟩ gX0_bringAllHome_X0_bringHomeIfDirty rfl ⟨rfl, by decide, by decide, by decide +kernel⟩ ⟨Nat.le_of_ble_eq_true rfl, Nat.le_of_ble_eq_true rfl⟩ ⟨rfl, rfl⟩ hml hl.1 hK hP hD hS hA ⟨rfl, rfl, rfl, rfl, rfl, rfl, rfl⟩ rfl ⟨rfl, rfl⟩ rfl rfl (Nat.le_of_ble_eq_true rfl) ⟨Nat.zero_le _, Nat.zero_le _⟩ dX0_bringAllHome_58 (fun H locs hP hD hS => ?_)
              refine lv_iinc (v := nI (j + 1)) (lv' := [(2, .int (nI (j + 1))), (0, .ref h), (1, .int hc)]) hx hb dX0_bringAllHome_61 hl (k := 2) rfl (inc1 _) (by decide) rfl (fun ls hl => ?_)
              refine lv_goto (tgt := 43) hx hb dX0_bringAllHome_64 (by decide) ?_
              exact ih (j + 1) (ru dtj (bn j) false) (hcj + cI (dtj (bn j)) 1) (coj + cI (dtj (bn j)) 10) _ _ _ (by omega) (by unfold cb_bhB; rw [hej]; rfl) (by omega) hP hD hS (lv_sub hl [1, 2, 0] rfl)
        exact LP43 _ 0 dti hci coi _ _ _ (Nat.zero_le _) rfl (Nat.lt_succ_self _) hP hD hS (lv_sub hl [1, 2, 0] rfl)
      · refine lv_aload_n hx hb dX0_bringAllHome_15 rfl (lv_at hl 0 rfl) ?_
        refine va_get (D := D) (ci := 0) (v := .ref a1) (C := RX0) (T := TX0) (N := 11) hx hb hts hi_RX0 hown hK hP 0 rfl rfl 2 (by decide) hf_9 (fun _ h9 => h9) rfl dX0_bringAllHome_16 ?_
        refine lv_iload_n hx hb dX0_bringAllHome_19 rfl (lv_at hl 2 rfl) ?_
        refine mq_ld (k := i) oI ln hx hb hK hP 1 0 rfl rfl (by omega) (Nat.le_of_ble_eq_true rfl) dX0_bringAllHome_20 ?_
        rcases hls : ln i with _ | q
        · refine lv_iconst (v := -1) hx hb dX0_bringAllHome_21 (by decide) ?_
          refine lv_icmp_eq (x := oI none) (y := -1) (tgt := 35) hx hb dX0_bringAllHome_22 (by decide) (fun c2 => ?_) (fun c2 => ?_)
          · refine lv_iinc (v := nI (i + 1)) (lv' := [(2, .int (nI (i + 1))), (0, .ref h), (1, .int hc)]) hx hb dX0_bringAllHome_35 hl (k := 2) rfl (inc1 _) (by decide) rfl (fun ls hl => ?_)
            refine lv_goto (tgt := 7) hx hb dX0_bringAllHome_38 (by decide) ?_
            exact ih (i + 1) dti hci coi _ _ _ (by omega) (by unfold cb_bhS; show (match ln i with | none => _ | some q => _) = _; rw [hls]; exact hei) (by omega) hP hD hS (lv_sub hl [1, 2, 0] rfl)
          · exact absurd rfl c2
        · have hq : q < 256 := hln i q hls
          refine lv_iconst (v := -1) hx hb dX0_bringAllHome_21 (by decide) ?_
          refine lv_icmp_eq (x := nI q) (y := -1) (tgt := 35) hx hb dX0_bringAllHome_22 (by decide) (fun c2 => ?_) (fun c2 => ?_)
          · exact absurd c2 (nI_m1 (by omega))
          · refine lv_aload_n hx hb dX0_bringAllHome_25 rfl (lv_at hl 0 rfl) ?_
            refine lv_aload_n hx hb dX0_bringAllHome_26 rfl (lv_at hl 0 rfl) ?_
            refine va_get (D := D) (ci := 0) (v := .ref a1) (C := RX0) (T := TX0) (N := 11) hx hb hts hi_RX0 hown hK hP 0 rfl rfl 2 (by decide) hf_9 (fun _ h9 => h9) rfl dX0_bringAllHome_27 ?_
            refine lv_iload_n hx hb dX0_bringAllHome_30 rfl (lv_at hl 2 rfl) ?_
            refine mq_ld (k := i) oI ln hx hb hK hP 1 0 rfl rfl (by omega) (Nat.le_of_ble_eq_true rfl) dX0_bringAllHome_31 ?_
            rw [show oI (ln i) = nI q from (by rw [hls]; rfl)]
            refine CtV.callV (n := 1) (q0 := 0) (ci := 0) (wc := CBc cyI cyZ h a1 a2 a3 (sc, pl, ln, bn, n, dti, hi, sw, mi, hci, coi)) (wr := ([] : va_W)) (w1 := CBc cyI cyZ h a1 a2 a3 (sc, pl, ln, bn, n, ru dti q false, hi, sw, mi, hci + cI (dti q) 1, coi + cI (dti q) 10)) (ws' := CBc cyI cyZ h a1 a2 a3 (sc, pl, ln, bn, n, ru dti q false, hi, sw, mi, hci + cI (dti q) 1, coi + cI (dti q) 10)) (isC := [0, 1, 2, 3]) (isR := []) (ps := [0, 1, 2, 3]) (As := [.int (nI q)]) (rest := []) (c_bh l D cyI cyZ cyJ h a1 a2 a3 sc pl ln bn n dti hi sw mi hci coi q hq) ⟨hx, hb, hown, hts⟩ gX0_bringAllHome_X0_bringHomeIfDirty rfl ⟨rfl, by decide, by decide, by decide +kernel⟩ ⟨Nat.le_of_ble_eq_true rfl, Nat.le_of_ble_eq_true rfl⟩ ⟨rfl, rfl⟩ hml hl.1 hK hP hD hS hA ⟨rfl, rfl, rfl, rfl, rfl, rfl, rfl⟩ rfl ⟨rfl, rfl⟩ rfl rfl (Nat.le_of_ble_eq_true rfl) ⟨Nat.zero_le _, Nat.zero_le _⟩ dX0_bringAllHome_32 (fun H locs hP hD hS => ?_)
            refine lv_iinc (v := nI (i + 1)) (lv' := [(2, .int (nI (i + 1))), (0, .ref h), (1, .int hc)]) hx hb dX0_bringAllHome_35 hl (k := 2) rfl (inc1 _) (by decide) rfl (fun ls hl => ?_)
            refine lv_goto (tgt := 7) hx hb dX0_bringAllHome_38 (by decide) ?_
            exact ih (i + 1) (ru dti q false) (hci + cI (dti q) 1) (coi + cI (dti q) 10) _ _ _ (by omega) (by unfold cb_bhS; show (match ln i with | none => _ | some q => cb_bh q (cb_bhS i _)) = _; rw [hls, hei]; rfl) (by omega) hP hD hS (lv_sub hl [1, 2, 0] rfl)
  exact LP7 _ 0 dt hc co _ _ _ (Nat.zero_le _) rfl (Nat.lt_succ_self _) hP hD hS (lv_sub hl [2, 1, 0] rfl)

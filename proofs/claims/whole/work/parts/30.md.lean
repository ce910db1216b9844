abbrev rmX3_thrown : Room := { frames := 0, cells := 0, slots := 0, locals := 0 }
set_option maxRecDepth 100000 in
set_option maxHeartbeats 4000000 in
theorem m_thrown (l : Launch) (D : va_G) (cyI cyZ cyJ : ClassId) (h a1 a2 a3 a4 a5 a6 a7 a8 a9 a10 : Nat) (mw : Nat → Int32) (mh : Nat → Int32) (ms : Nat → Nat) (mp : Nat → Nat) (ml : Nat → Option Nat) (mb : Nat → Nat) (mm : Nat → Nat) (md : Nat → Bool) (mc : Nat → Int32) (mhi : Int32) (msw : Int32) (mmi : Int32) (mhc : Int32) (ma : Nat → Nat) (mq : Nat) (mt : Nat)  : CtI l yX3_thrown wsX3_thrown rmX3_thrown D (T3 cyI cyZ cyJ) [.ref h] (MDc cyI h a1 a2 a3 a4 a5 a6 a7 a8 a9 a10 (mw, mh, ms, mp, ml, mb, mm, md, mc, mhi, msw, mmi, mhc, ma, mq, mt)) (nI mt) (MDc cyI h a1 a2 a3 a4 a5 a6 a7 a8 a9 a10 (mw, mh, ms, mp, ml, mb, mm, md, mc, mhi, msw, mmi, mhc, ma, mq, mt)) := by
  refine CtI.of (cc := cX3_thrown) (maxL := 1) (ret := (some .int)) (lv0 := [(0, .ref h)]) (by decide) rfl (Nat.le_of_ble_eq_true rfl) rfl ?_
  intro p e s m below meth c A ls args Q hx hb hml hr hlk hts hown hK hP hA hD hS hl hQ
  have hown : s.vm.findClass RX3 = some m.cls := hown
  have hi_RX3 : ∀ w ∈ wsX30, w ∈ wsX3_thrown := by decide +kernel
  have hf_44 := hts (.fieldLink RX3 44 "OutcastBenchModel" "thrown" "I") (by decide +kernel)
  refine lv_aload_n hx hb dX3_thrown_0 rfl (lv_at hl 0 rfl) ?_
  refine va_get (D := D) (ci := 3) (v := .int (nI mt)) (C := RX3) (T := TX3) (N := 16) hx hb hts hi_RX3 hown hK hP 0 rfl rfl 15 (by decide) hf_44 (fun _ h9 => h9) rfl dX3_thrown_1 ?_
  exact CtI.ret hQ hx hb hr hlk hK hP hD hS dX3_thrown_4 rfl rfl
abbrev rmX3_empties : Room := { frames := 0, cells := 0, slots := 0, locals := 0 }
set_option maxRecDepth 100000 in
set_option maxHeartbeats 4000000 in
theorem m_empties (l : Launch) (D : va_G) (cyI cyZ cyJ : ClassId) (h a1 a2 a3 a4 a5 a6 a7 a8 a9 a10 : Nat) (mw : Nat → Int32) (mh : Nat → Int32) (ms : Nat → Nat) (mp : Nat → Nat) (ml : Nat → Option Nat) (mb : Nat → Nat) (mm : Nat → Nat) (md : Nat → Bool) (mc : Nat → Int32) (mhi : Int32) (msw : Int32) (mmi : Int32) (mhc : Int32) (ma : Nat → Nat) (mq : Nat) (mt : Nat) (w : Nat) (hw : w < 2) : CtV l yX3_empties wsX3_empties rmX3_empties D (T3 cyI cyZ cyJ) [.ref h, .int (nI w)] (MDc cyI h a1 a2 a3 a4 a5 a6 a7 a8 a9 a10 (mw, mh, ms, mp, ml, mb, mm, md, mc, mhi, msw, mmi, mhc, ma, mq, mt)) (MDc cyI h a1 a2 a3 a4 a5 a6 a7 a8 a9 a10 (md_empties w (mw, mh, ms, mp, ml, mb, mm, md, mc, mhi, msw, mmi, mhc, ma, mq, mt))) := by
  refine CtV.of (cc := cX3_empties) (maxL := 3) (ret := none) (lv0 := [(0, .ref h), (1, .int (nI w))]) (by decide) rfl (Nat.le_of_ble_eq_true rfl) rfl ?_
  intro p e s m below meth c A ls args Q hx hb hml hr hlk hts hown hK hP hA hD hS hl hQ
  have hown : s.vm.findClass RX3 = some m.cls := hown
  have hi_RX3 : ∀ w ∈ wsX30, w ∈ wsX3_empties := by decide +kernel
  have hf_22 := hts (.fieldLink RX3 22 "OutcastBenchModel" "lineOf" "[I") (by decide +kernel)
  have hf_28 := hts (.fieldLink RX3 28 "OutcastBenchModel" "many" "[I") (by decide +kernel)
  have hf_31 := hts (.fieldLink RX3 31 "OutcastBenchModel" "isDirty" "[I") (by decide +kernel)
  refine lv_iconst (v := nI 0) hx hb dX3_empties_0 (by decide) ?_
  refine lv_istore_n (lv' := [(2, .int (nI 0)), (0, .ref h), (1, .int (nI w))]) hx hb dX3_empties_1 rfl hl (by decide) rfl (fun ls hl => ?_)
  rw [show ml = (fil ml (16 * w) (16 * w + 0) none) from (fil_0 ml (16 * w) none).symm] at hP hD
  have LP2 : ∀ (fu : Nat) (i : Nat) (H : Heap) (locs : List Loc) (ls : Array Slot), (i ≤ 16) → 16 - i < fu → va_P D vwCl (MDc cyI h a1 a2 a3 a4 a5 a6 a7 a8 a9 a10 (mw, mh, ms, mp, fil ml (16 * w) (16 * w + i) none, mb, mm, md, mc, mhi, msw, mmi, mhc, ma, mq, mt)) H → va_D A (MDc cyI h a1 a2 a3 a4 a5 a6 a7 a8 a9 a10 (mw, mh, ms, mp, fil ml (16 * w) (16 * w + i) none, mb, mm, md, mc, mhi, msw, mmi, mhc, ma, mq, mt)) → va_S A s.heap H locs → lv_has ls 3 [(0, .ref h), (1, .int (nI w)), (2, .int (nI i))] → W p l e rmX3_empties s m args below meth c H locs 0 0 Q (F0 m 2 ls []) := by
    intro fu
    induction fu with
    | zero =>
      intro i H locs ls h2 hfu
      exact absurd hfu (Nat.not_lt_zero _)
    | succ fu ih =>
      intro i H locs ls h2 hfu hP hD hS hl
      refine lv_iload_n hx hb dX3_empties_2 rfl (lv_at hl 2 rfl) ?_
      refine lv_bipush (v := nI 16) hx hb dX3_empties_3 (by decide) ?_
      refine mq_ge (x := i) (y := 16) (tgt := 26) (by omega) (by omega) hx hb dX3_empties_5 (by decide) (fun c1 => ?_) (fun c1 => ?_)
      · have e : i = 16 := by omega
        subst e
        refine lv_aload_n hx hb dX3_empties_26 rfl (lv_at hl 0 rfl) ?_
        refine va_get (D := D) (ci := 3) (v := .ref a7) (C := RX3) (T := TX3) (N := 16) hx hb hts hi_RX3 hown hK hP 0 rfl rfl 6 (by decide) hf_28 (fun _ h9 => h9) rfl dX3_empties_27 ?_
        refine lv_iload_n hx hb dX3_empties_30 rfl (lv_at hl 1 rfl) ?_
        refine lv_iconst (v := nI 0) hx hb dX3_empties_31 (by decide) ?_
        refine mq_st (k := w) nI mm 0 (ws' := MDc cyI h a1 a2 a3 a4 a5 a6 a7 a8 a9 a10 (mw, mh, ms, mp, fil ml (16 * w) (16 * w + 16) none, mb, ru mm w 0, md, mc, mhi, msw, mmi, mhc, ma, mq, mt)) hx hb hK hP hD hS 7 0 rfl rfl (by omega) (Nat.le_of_ble_eq_true rfl) dX3_empties_32 rfl (fun H locs hP hD hS => ?_)
        refine lv_iconst (v := nI 0) hx hb dX3_empties_33 (by decide) ?_
        refine lv_istore_n (lv' := [(2, .int (nI 0)), (0, .ref h), (1, .int (nI w))]) hx hb dX3_empties_34 rfl hl (by decide) rfl (fun ls hl => ?_)
        rw [show md = (fil md (256 * w) (256 * w + 0) false) from (fil_0 md (256 * w) false).symm] at hP hD
        have LP35 : ∀ (fu : Nat) (j : Nat) (H : Heap) (locs : List Loc) (ls : Array Slot), (j ≤ 256) → 256 - j < fu → va_P D vwCl (MDc cyI h a1 a2 a3 a4 a5 a6 a7 a8 a9 a10 (mw, mh, ms, mp, fil ml (16 * w) (16 * w + 16) none, mb, ru mm w 0, fil md (256 * w) (256 * w + j) false, mc, mhi, msw, mmi, mhc, ma, mq, mt)) H → va_D A (MDc cyI h a1 a2 a3 a4 a5 a6 a7 a8 a9 a10 (mw, mh, ms, mp, fil ml (16 * w) (16 * w + 16) none, mb, ru mm w 0, fil md (256 * w) (256 * w + j) false, mc, mhi, msw, mmi, mhc, ma, mq, mt)) → va_S A s.heap H locs → lv_has ls 3 [(0, .ref h), (1, .int (nI w)), (2, .int (nI j))] → W p l e rmX3_empties s m args below meth c H locs 0 0 Q (F0 m 35 ls []) := by
          intro fu
          induction fu with
          | zero =>
            intro j H locs ls h3 hfu
            exact absurd hfu (Nat.not_lt_zero _)
          | succ fu ih =>
            intro j H locs ls h3 hfu hP hD hS hl
            refine lv_iload_n hx hb dX3_empties_35 rfl (lv_at hl 2 rfl) ?_
            refine lv_sipush (v := nI 256) hx hb dX3_empties_36 (by decide) ?_
            refine mq_ge (x := j) (y := 256) (tgt := 61) (by omega) (by omega) hx hb dX3_empties_39 (by decide) (fun c2 => ?_) (fun c2 => ?_)
            · have e : j = 256 := by omega
              subst e
              exact CtV.ret hQ hx hb hr hlk hK hP hD hS dX3_empties_61 rfl
            · refine lv_aload_n hx hb dX3_empties_42 rfl (lv_at hl 0 rfl) ?_
              refine va_get (D := D) (ci := 3) (v := .ref a8) (C := RX3) (T := TX3) (N := 16) hx hb hts hi_RX3 hown hK hP 0 rfl rfl 7 (by decide) hf_31 (fun _ h9 => h9) rfl dX3_empties_43 ?_
              refine lv_sipush (v := nI 256) hx hb dX3_empties_46 (by decide) ?_
              refine lv_iload_n hx hb dX3_empties_49 rfl (lv_at hl 1 rfl) ?_
              refine mq_imul (x := 256) (y := w) hx hb dX3_empties_50 ?_
              refine lv_iload_n hx hb dX3_empties_51 rfl (lv_at hl 2 rfl) ?_
              refine mq_iadd (x := (256 * w)) (y := j) hx hb dX3_empties_52 ?_
              refine lv_iconst (v := nI 0) hx hb dX3_empties_53 (by decide) ?_
              refine mq_st (k := (256 * w + j)) bI (fil md (256 * w) (256 * w + j) false) false (ws' := MDc cyI h a1 a2 a3 a4 a5 a6 a7 a8 a9 a10 (mw, mh, ms, mp, fil ml (16 * w) (16 * w + 16) none, mb, ru mm w 0, ru (fil md (256 * w) (256 * w + j) false) (256 * w + j) false, mc, mhi, msw, mmi, mhc, ma, mq, mt)) hx hb hK hP hD hS 8 0 rfl rfl (by omega) (Nat.le_of_ble_eq_true rfl) dX3_empties_54 rfl (fun H locs hP hD hS => ?_)
              rw [show (ru (fil md (256 * w) (256 * w + j) false) (256 * w + j) false) = (fil md (256 * w) (256 * w + (j + 1)) false) from fil_s (by omega)] at hP hD
              refine lv_iinc (v := nI (j + 1)) (lv' := [(2, .int (nI (j + 1))), (0, .ref h), (1, .int (nI w))]) hx hb dX3_empties_55 hl (k := 2) rfl (inc1 _) (by decide) rfl (fun ls hl => ?_)
              refine lv_goto (tgt := 35) hx hb dX3_empties_58 (by decide) ?_
              exact ih (j + 1) _ _ _ (by omega) (by omega) hP hD hS (lv_sub hl [1, 2, 0] rfl)
        exact LP35 _ 0 _ _ _ (Nat.zero_le _) (Nat.lt_succ_self _) hP hD hS (lv_sub hl [1, 2, 0] rfl)
      · refine lv_aload_n hx hb dX3_empties_8 rfl (lv_at hl 0 rfl) ?_
        refine va_get (D := D) (ci := 3) (v := .ref a5) (C := RX3) (T := TX3) (N := 16) hx hb hts hi_RX3 hown hK hP 0 rfl rfl 4 (by decide) hf_22 (fun _ h9 => h9) rfl dX3_empties_9 ?_
        refine lv_bipush (v := nI 16) hx hb dX3_empties_12 (by decide) ?_
        refine lv_iload_n hx hb dX3_empties_14 rfl (lv_at hl 1 rfl) ?_
        refine mq_imul (x := 16) (y := w) hx hb dX3_empties_15 ?_
        refine lv_iload_n hx hb dX3_empties_16 rfl (lv_at hl 2 rfl) ?_
        refine mq_iadd (x := (16 * w)) (y := i) hx hb dX3_empties_17 ?_
        refine lv_iconst (v := -1) hx hb dX3_empties_18 (by decide) ?_
        refine mq_st (k := (16 * w + i)) oI (fil ml (16 * w) (16 * w + i) none) none (ws' := MDc cyI h a1 a2 a3 a4 a5 a6 a7 a8 a9 a10 (mw, mh, ms, mp, ru (fil ml (16 * w) (16 * w + i) none) (16 * w + i) none, mb, mm, md, mc, mhi, msw, mmi, mhc, ma, mq, mt)) hx hb hK hP hD hS 5 0 rfl rfl (by omega) (Nat.le_of_ble_eq_true rfl) dX3_empties_19 rfl (fun H locs hP hD hS => ?_)
        rw [show (ru (fil ml (16 * w) (16 * w + i) none) (16 * w + i) none) = (fil ml (16 * w) (16 * w + (i + 1)) none) from fil_s (by omega)] at hP hD
        refine lv_iinc (v := nI (i + 1)) (lv' := [(2, .int (nI (i + 1))), (0, .ref h), (1, .int (nI w))]) hx hb dX3_empties_20 hl (k := 2) rfl (inc1 _) (by decide) rfl (fun ls hl => ?_)
        refine lv_goto (tgt := 2) hx hb dX3_empties_23 (by decide) ?_
        exact ih (i + 1) _ _ _ (by omega) (by omega) hP hD hS (lv_sub hl [1, 2, 0] rfl)
  exact LP2 _ 0 _ _ _ (Nat.zero_le _) (Nat.lt_succ_self _) hP hD hS (lv_sub hl [1, 2, 0] rfl)
abbrev rmX3_comesHome : Room := { frames := 0, cells := 0, slots := 0, locals := 0 }
set_option maxRecDepth 100000 in
set_option maxHeartbeats 4000000 in
theorem m_comes (l : Launch) (D : va_G) (cyI cyZ cyJ : ClassId) (h a1 a2 a3 a4 a5 a6 a7 a8 a9 a10 : Nat) (mw : Nat → Int32) (mh : Nat → Int32) (ms : Nat → Nat) (mp : Nat → Nat) (ml : Nat → Option Nat) (mb : Nat → Nat) (mm : Nat → Nat) (md : Nat → Bool) (mc : Nat → Int32) (mhi : Int32) (msw : Int32) (mmi : Int32) (mhc : Int32) (ma : Nat → Nat) (mq : Nat) (mt : Nat) (w q : Nat) (hw : w < 2) (hq : q < 256) : CtV l yX3_comesHome wsX3_comesHome rmX3_comesHome D (T3 cyI cyZ cyJ) [.ref h, .int (nI w), .int (nI q)] (MDc cyI h a1 a2 a3 a4 a5 a6 a7 a8 a9 a10 (mw, mh, ms, mp, ml, mb, mm, md, mc, mhi, msw, mmi, mhc, ma, mq, mt)) (MDc cyI h a1 a2 a3 a4 a5 a6 a7 a8 a9 a10 (md_comes w q (mw, mh, ms, mp, ml, mb, mm, md, mc, mhi, msw, mmi, mhc, ma, mq, mt))) := by
  refine CtV.of (cc := cX3_comesHome) (maxL := 4) (ret := none) (lv0 := [(0, .ref h), (1, .int (nI w)), (2, .int (nI q))]) (by decide) rfl (Nat.le_of_ble_eq_true rfl) rfl ?_
  intro p e s m below meth c A ls args Q hx hb hml hr hlk hts hown hK hP hA hD hS hl hQ
  have hown : s.vm.findClass RX3 = some m.cls := hown
  have hi_RX3 : ∀ w ∈ wsX30, w ∈ wsX3_comesHome := by decide +kernel
  have hf_7 := hts (.fieldLink RX3 7 "OutcastBenchModel" "written" "[I") (by decide +kernel)
  have hf_13 := hts (.fieldLink RX3 13 "OutcastBenchModel" "home" "[I") (by decide +kernel)
  have hf_31 := hts (.fieldLink RX3 31 "OutcastBenchModel" "isDirty" "[I") (by decide +kernel)
  have hf_34 := hts (.fieldLink RX3 34 "OutcastBenchModel" "cost" "[I") (by decide +kernel)
  have hf_48 := hts (.fieldLink RX3 48 "OutcastBenchModel" "homecomings" "I") (by decide +kernel)
  rcases (show w = 0 ∨ w = 1 by omega) with rfl | rfl
  · refine lv_aload_n hx hb dX3_comesHome_0 rfl (lv_at hl 0 rfl) ?_
    refine va_get (D := D) (ci := 3) (v := .ref a9) (C := RX3) (T := TX3) (N := 16) hx hb hts hi_RX3 hown hK hP 0 rfl rfl 8 (by decide) hf_34 (fun _ h9 => h9) rfl dX3_comesHome_1 ?_
    refine lv_iload_n hx hb dX3_comesHome_4 rfl (lv_at hl 1 rfl) ?_
    refine lv_dup2_11 hx hb dX3_comesHome_5 rfl rfl ?_
    refine mq_ldR (k := 0) mc hx hb hK hP 9 0 rfl rfl (by omega) (Nat.le_of_ble_eq_true rfl) dX3_comesHome_6 ?_
    refine lv_bipush (v := nI 10) hx hb dX3_comesHome_7 (by decide) ?_
    refine lv_iadd (x := mc 0) (y := 10) hx hb dX3_comesHome_9 ?_
    refine mq_stR (k := 0) mc (mc 0 + 10) (ws' := MDc cyI h a1 a2 a3 a4 a5 a6 a7 a8 a9 a10 (mw, mh, ms, mp, ml, mb, mm, md, ru mc 0 (mc 0 + 10), mhi, msw, mmi, mhc, ma, mq, mt)) hx hb hK hP hD hS 9 0 rfl rfl (by omega) (Nat.le_of_ble_eq_true rfl) dX3_comesHome_10 rfl (fun H locs hP hD hS => ?_)
    refine lv_aload_n hx hb dX3_comesHome_11 rfl (lv_at hl 0 rfl) ?_
    refine va_get (D := D) (ci := 3) (v := .ref a8) (C := RX3) (T := TX3) (N := 16) hx hb hts hi_RX3 hown hK hP 0 rfl rfl 7 (by decide) hf_31 (fun _ h9 => h9) rfl dX3_comesHome_12 ?_
    refine lv_sipush (v := nI 256) hx hb dX3_comesHome_15 (by decide) ?_
    refine lv_iload_n hx hb dX3_comesHome_18 rfl (lv_at hl 1 rfl) ?_
    refine mq_imul (x := 256) (y := 0) hx hb dX3_comesHome_19 ?_
    refine lv_iload_n hx hb dX3_comesHome_20 rfl (lv_at hl 2 rfl) ?_
    refine mq_iadd (x := (256 * 0)) (y := q) hx hb dX3_comesHome_21 ?_
    refine lv_iconst (v := nI 0) hx hb dX3_comesHome_22 (by decide) ?_
    refine mq_st (k := (256 * 0 + q)) bI md false (ws' := MDc cyI h a1 a2 a3 a4 a5 a6 a7 a8 a9 a10 (mw, mh, ms, mp, ml, mb, mm, ru md (256 * 0 + q) false, ru mc 0 (mc 0 + 10), mhi, msw, mmi, mhc, ma, mq, mt)) hx hb hK hP hD hS 8 0 rfl rfl (by omega) (Nat.le_of_ble_eq_true rfl) dX3_comesHome_23 rfl (fun H locs hP hD hS => ?_)
    refine lv_iconst (v := nI 4) hx hb dX3_comesHome_24 (by decide) ?_
    refine lv_iload_n hx hb dX3_comesHome_25 rfl (lv_at hl 2 rfl) ?_
    refine mq_imul (x := 4) (y := q) hx hb dX3_comesHome_26 ?_
    refine lv_istore_n (lv' := [(3, .int (nI (4 * q))), (0, .ref h), (1, .int (nI 0)), (2, .int (nI q))]) hx hb dX3_comesHome_27 rfl hl (by decide) rfl (fun ls hl => ?_)
    rw [show mh = (cpy mh mw (4 * q) (4 * q)) from (cpy_0 mh mw (4 * q)).symm] at hP hD
    have LP28 : ∀ (fu : Nat) (i : Nat) (H : Heap) (locs : List Loc) (ls : Array Slot), (4 * q ≤ i) → (i ≤ 4 * q + 4) → 4 * q + 4 - i < fu → va_P D vwCl (MDc cyI h a1 a2 a3 a4 a5 a6 a7 a8 a9 a10 (mw, cpy mh mw (4 * q) i, ms, mp, ml, mb, mm, ru md (256 * 0 + q) false, ru mc 0 (mc 0 + 10), mhi, msw, mmi, mhc, ma, mq, mt)) H → va_D A (MDc cyI h a1 a2 a3 a4 a5 a6 a7 a8 a9 a10 (mw, cpy mh mw (4 * q) i, ms, mp, ml, mb, mm, ru md (256 * 0 + q) false, ru mc 0 (mc 0 + 10), mhi, msw, mmi, mhc, ma, mq, mt)) → va_S A s.heap H locs → lv_has ls 4 [(0, .ref h), (1, .int (nI 0)), (2, .int (nI q)), (3, .int (nI i))] → W p l e rmX3_comesHome s m args below meth c H locs 0 0 Q (F0 m 28 ls []) := by
      intro fu
      induction fu with
      | zero =>
        intro i H locs ls h1 h2 hfu
        exact absurd hfu (Nat.not_lt_zero _)
      | succ fu ih =>
        intro i H locs ls h1 h2 hfu hP hD hS hl
        refine lv_iload_n hx hb dX3_comesHome_28 rfl (lv_at hl 3 rfl) ?_
        refine lv_iconst (v := nI 4) hx hb dX3_comesHome_29 (by decide) ?_
        refine lv_iload_n hx hb dX3_comesHome_30 rfl (lv_at hl 2 rfl) ?_
        refine mq_imul (x := 4) (y := q) hx hb dX3_comesHome_31 ?_
        refine lv_iconst (v := nI 4) hx hb dX3_comesHome_32 (by decide) ?_
        refine mq_iadd (x := (4 * q)) (y := 4) hx hb dX3_comesHome_33 ?_
        refine mq_ge (x := i) (y := (4 * q + 4)) (tgt := 59) (by omega) (by omega) hx hb dX3_comesHome_34 (by decide) (fun c1 => ?_) (fun c1 => ?_)
        · have e : i = 4 * q + 4 := by omega
          subst e
          refine lv_aload_n hx hb dX3_comesHome_59 rfl (lv_at hl 0 rfl) ?_
          refine lv_dup hx hb dX3_comesHome_60 rfl ?_
          refine va_get (D := D) (ci := 3) (v := .int mhc) (C := RX3) (T := TX3) (N := 16) hx hb hts hi_RX3 hown hK hP 0 rfl rfl 12 (by decide) hf_48 (fun _ h9 => h9) rfl dX3_comesHome_61 ?_
          refine lv_iload_n hx hb dX3_comesHome_64 rfl (lv_at hl 1 rfl) ?_
          refine mq_nz (x := 0) (tgt := 72) (by omega) hx hb dX3_comesHome_65 (by decide) (fun c2 => ?_) (fun c2 => ?_)
          · exact absurd c2 (by decide)
          · refine lv_iconst (v := nI 1) hx hb dX3_comesHome_68 (by decide) ?_
            refine lv_goto (tgt := 73) hx hb dX3_comesHome_69 (by decide) ?_
            refine lv_iadd (x := mhc) (y := 1) hx hb dX3_comesHome_73 ?_
            refine mq_put (D := D) (ci := 3) (v := .int (mhc + 1)) (ty := .int) (C := RX3) (T := TX3) (N := 16) (ws' := MDc cyI h a1 a2 a3 a4 a5 a6 a7 a8 a9 a10 (mw, cpy mh mw (4 * q) (4 * q + 4), ms, mp, ml, mb, mm, ru md (256 * 0 + q) false, ru mc 0 (mc 0 + 10), mhi, msw, mmi, mhc + 1, ma, mq, mt)) hx hb hts hi_RX3 tyX3 tyX3_ok nmX3 hown hK hP hD hS 0 rfl rfl 12 (by decide) hf_48 (fun _ h9 => h9) rfl (by decide +kernel) rfl rfl (Nat.le_of_ble_eq_true rfl) dX3_comesHome_74 rfl (fun H locs hP hD hS => ?_)
            exact CtV.ret hQ hx hb hr hlk hK hP hD hS dX3_comesHome_77 rfl
        · refine lv_iload_n hx hb dX3_comesHome_37 rfl (lv_at hl 1 rfl) ?_
          refine mq_nz (x := 0) (tgt := 59) (by omega) hx hb dX3_comesHome_38 (by decide) (fun c3 => ?_) (fun c3 => ?_)
          · exact absurd c3 (by decide)
          · refine lv_aload_n hx hb dX3_comesHome_41 rfl (lv_at hl 0 rfl) ?_
            refine va_get (D := D) (ci := 3) (v := .ref a2) (C := RX3) (T := TX3) (N := 16) hx hb hts hi_RX3 hown hK hP 0 rfl rfl 1 (by decide) hf_13 (fun _ h9 => h9) rfl dX3_comesHome_42 ?_
            refine lv_iload_n hx hb dX3_comesHome_45 rfl (lv_at hl 3 rfl) ?_
            refine lv_aload_n hx hb dX3_comesHome_46 rfl (lv_at hl 0 rfl) ?_
            refine va_get (D := D) (ci := 3) (v := .ref a1) (C := RX3) (T := TX3) (N := 16) hx hb hts hi_RX3 hown hK hP 0 rfl rfl 0 (by decide) hf_7 (fun _ h9 => h9) rfl dX3_comesHome_47 ?_
            refine lv_iload_n hx hb dX3_comesHome_50 rfl (lv_at hl 3 rfl) ?_
            refine mq_ldR (k := i) mw hx hb hK hP 1 0 rfl rfl (by omega) (Nat.le_of_ble_eq_true rfl) dX3_comesHome_51 ?_
            refine mq_stR (k := i) (cpy mh mw (4 * q) i) (mw i) (ws' := MDc cyI h a1 a2 a3 a4 a5 a6 a7 a8 a9 a10 (mw, ru (cpy mh mw (4 * q) i) i (mw i), ms, mp, ml, mb, mm, ru md (256 * 0 + q) false, ru mc 0 (mc 0 + 10), mhi, msw, mmi, mhc, ma, mq, mt)) hx hb hK hP hD hS 2 0 rfl rfl (by omega) (Nat.le_of_ble_eq_true rfl) dX3_comesHome_52 rfl (fun H locs hP hD hS => ?_)
            rw [show (ru (cpy mh mw (4 * q) i) i (mw i)) = (cpy mh mw (4 * q) (i + 1)) from cpy_s h1] at hP hD
            refine lv_iinc (v := nI (i + 1)) (lv' := [(3, .int (nI (i + 1))), (0, .ref h), (1, .int (nI 0)), (2, .int (nI q))]) hx hb dX3_comesHome_53 hl (k := 3) rfl (inc1 _) (by decide) rfl (fun ls hl => ?_)
            refine lv_goto (tgt := 28) hx hb dX3_comesHome_56 (by decide) ?_
            exact ih (i + 1) _ _ _ (by omega) (by omega) (by omega) hP hD hS (lv_sub hl [1, 2, 3, 0] rfl)
    exact LP28 _ (4 * q) _ _ _ (Nat.le_refl _) (by omega) (Nat.lt_succ_self _) hP hD hS (lv_sub hl [1, 2, 3, 0] rfl)
  · refine lv_aload_n hx hb dX3_comesHome_0 rfl (lv_at hl 0 rfl) ?_
    refine va_get (D := D) (ci := 3) (v := .ref a9) (C := RX3) (T := TX3) (N := 16) hx hb hts hi_RX3 hown hK hP 0 rfl rfl 8 (by decide) hf_34 (fun _ h9 => h9) rfl dX3_comesHome_1 ?_
    refine lv_iload_n hx hb dX3_comesHome_4 rfl (lv_at hl 1 rfl) ?_
    refine lv_dup2_11 hx hb dX3_comesHome_5 rfl rfl ?_
    refine mq_ldR (k := 1) mc hx hb hK hP 9 0 rfl rfl (by omega) (Nat.le_of_ble_eq_true rfl) dX3_comesHome_6 ?_
    refine lv_bipush (v := nI 10) hx hb dX3_comesHome_7 (by decide) ?_
    refine lv_iadd (x := mc 1) (y := 10) hx hb dX3_comesHome_9 ?_
    refine mq_stR (k := 1) mc (mc 1 + 10) (ws' := MDc cyI h a1 a2 a3 a4 a5 a6 a7 a8 a9 a10 (mw, mh, ms, mp, ml, mb, mm, md, ru mc 1 (mc 1 + 10), mhi, msw, mmi, mhc, ma, mq, mt)) hx hb hK hP hD hS 9 0 rfl rfl (by omega) (Nat.le_of_ble_eq_true rfl) dX3_comesHome_10 rfl (fun H locs hP hD hS => ?_)
    refine lv_aload_n hx hb dX3_comesHome_11 rfl (lv_at hl 0 rfl) ?_
    refine va_get (D := D) (ci := 3) (v := .ref a8) (C := RX3) (T := TX3) (N := 16) hx hb hts hi_RX3 hown hK hP 0 rfl rfl 7 (by decide) hf_31 (fun _ h9 => h9) rfl dX3_comesHome_12 ?_
    refine lv_sipush (v := nI 256) hx hb dX3_comesHome_15 (by decide) ?_
    refine lv_iload_n hx hb dX3_comesHome_18 rfl (lv_at hl 1 rfl) ?_
    refine mq_imul (x := 256) (y := 1) hx hb dX3_comesHome_19 ?_
    refine lv_iload_n hx hb dX3_comesHome_20 rfl (lv_at hl 2 rfl) ?_
    refine mq_iadd (x := (256 * 1)) (y := q) hx hb dX3_comesHome_21 ?_
    refine lv_iconst (v := nI 0) hx hb dX3_comesHome_22 (by decide) ?_
    refine mq_st (k := (256 * 1 + q)) bI md false (ws' := MDc cyI h a1 a2 a3 a4 a5 a6 a7 a8 a9 a10 (mw, mh, ms, mp, ml, mb, mm, ru md (256 * 1 + q) false, ru mc 1 (mc 1 + 10), mhi, msw, mmi, mhc, ma, mq, mt)) hx hb hK hP hD hS 8 0 rfl rfl (by omega) (Nat.le_of_ble_eq_true rfl) dX3_comesHome_23 rfl (fun H locs hP hD hS => ?_)
    refine lv_iconst (v := nI 4) hx hb dX3_comesHome_24 (by decide) ?_
    refine lv_iload_n hx hb dX3_comesHome_25 rfl (lv_at hl 2 rfl) ?_
    refine mq_imul (x := 4) (y := q) hx hb dX3_comesHome_26 ?_
    refine lv_istore_n (lv' := [(3, .int (nI (4 * q))), (0, .ref h), (1, .int (nI 1)), (2, .int (nI q))]) hx hb dX3_comesHome_27 rfl hl (by decide) rfl (fun ls hl => ?_)
    refine lv_iload_n hx hb dX3_comesHome_28 rfl (lv_at hl 0 rfl) ?_
    refine lv_iconst (v := nI 4) hx hb dX3_comesHome_29 (by decide) ?_
    refine lv_iload_n hx hb dX3_comesHome_30 rfl (lv_at hl 3 rfl) ?_
    refine mq_imul (x := 4) (y := q) hx hb dX3_comesHome_31 ?_
    refine lv_iconst (v := nI 4) hx hb dX3_comesHome_32 (by decide) ?_
    refine mq_iadd (x := (4 * q)) (y := 4) hx hb dX3_comesHome_33 ?_
    refine mq_ge (x := (4 * q)) (y := (4 * q + 4)) (tgt := 59) (by omega) (by omega) hx hb dX3_comesHome_34 (by decide) (fun c4 => ?_) (fun c4 => ?_)
    · omega
    · refine lv_iload_n hx hb dX3_comesHome_37 rfl (lv_at hl 2 rfl) ?_
      refine mq_nz (x := 1) (tgt := 59) (by omega) hx hb dX3_comesHome_38 (by decide) (fun c5 => ?_) (fun c5 => ?_)
      · refine lv_aload_n hx hb dX3_comesHome_59 rfl (lv_at hl 1 rfl) ?_
        refine lv_dup hx hb dX3_comesHome_60 rfl ?_
        refine va_get (D := D) (ci := 3) (v := .int mhc) (C := RX3) (T := TX3) (N := 16) hx hb hts hi_RX3 hown hK hP 0 rfl rfl 12 (by decide) hf_48 (fun _ h9 => h9) rfl dX3_comesHome_61 ?_
        refine lv_iload_n hx hb dX3_comesHome_64 rfl (lv_at hl 2 rfl) ?_
        refine mq_nz (x := 1) (tgt := 72) (by omega) hx hb dX3_comesHome_65 (by decide) (fun c6 => ?_) (fun c6 => ?_)
        · refine lv_iconst (v := nI 0) hx hb dX3_comesHome_72 (by decide) ?_
          refine lv_iadd (x := mhc) (y := 0) hx hb dX3_comesHome_73 ?_
          refine mq_put (D := D) (ci := 3) (v := .int (mhc + 0)) (ty := .int) (C := RX3) (T := TX3) (N := 16) (ws' := MDc cyI h a1 a2 a3 a4 a5 a6 a7 a8 a9 a10 (mw, mh, ms, mp, ml, mb, mm, ru md (256 * 1 + q) false, ru mc 1 (mc 1 + 10), mhi, msw, mmi, mhc + 0, ma, mq, mt)) hx hb hts hi_RX3 tyX3 tyX3_ok nmX3 hown hK hP hD hS 0 rfl rfl 12 (by decide) hf_48 (fun _ h9 => h9) rfl (by decide +kernel) rfl rfl (Nat.le_of_ble_eq_true rfl) dX3_comesHome_74 rfl (fun H locs hP hD hS => ?_)
          exact CtV.ret hQ hx hb hr hlk hK hP hD hS dX3_comesHome_77 rfl
        · exact absurd c6 (by decide)
      · exact absurd c5 (by decide)
abbrev rmX3_goesHome : Room := { frames := 1, cells := 0, slots := 0, locals := 23 }
set_option maxRecDepth 100000 in
set_option maxHeartbeats 4000000 in
theorem m_goes (l : Launch) (D : va_G) (cyI cyZ cyJ : ClassId) (h a1 a2 a3 a4 a5 a6 a7 a8 a9 a10 : Nat) (mw : Nat → Int32) (mh : Nat → Int32) (ms : Nat → Nat) (mp : Nat → Nat) (ml : Nat → Option Nat) (mb : Nat → Nat) (mm : Nat → Nat) (md : Nat → Bool) (mc : Nat → Int32) (mhi : Int32) (msw : Int32) (mmi : Int32) (mhc : Int32) (ma : Nat → Nat) (mq : Nat) (mt : Nat) (w q : Nat) (hw : w < 2) (hq : q < 256) : CtV l yX3_goesHome wsX3_goesHome rmX3_goesHome D (T3 cyI cyZ cyJ) [.ref h, .int (nI w), .int (nI q)] (MDc cyI h a1 a2 a3 a4 a5 a6 a7 a8 a9 a10 (mw, mh, ms, mp, ml, mb, mm, md, mc, mhi, msw, mmi, mhc, ma, mq, mt)) (MDc cyI h a1 a2 a3 a4 a5 a6 a7 a8 a9 a10 (md_goes w q (mw, mh, ms, mp, ml, mb, mm, md, mc, mhi, msw, mmi, mhc, ma, mq, mt))) := by
  refine CtV.of (cc := cX3_goesHome) (maxL := 3) (ret := none) (lv0 := [(0, .ref h), (1, .int (nI w)), (2, .int (nI q))]) (by decide) rfl (Nat.le_of_ble_eq_true rfl) rfl ?_
  intro p e s m below meth c A ls args Q hx hb hml hr hlk hts hown hK hP hA hD hS hl hQ
  have hown : s.vm.findClass RX3 = some m.cls := hown
  have hi_RX3 : ∀ w ∈ wsX30, w ∈ wsX3_goesHome := by decide +kernel
  have hf_31 := hts (.fieldLink RX3 31 "OutcastBenchModel" "isDirty" "[I") (by decide +kernel)
  refine lv_aload_n hx hb dX3_goesHome_0 rfl (lv_at hl 0 rfl) ?_
  refine va_get (D := D) (ci := 3) (v := .ref a8) (C := RX3) (T := TX3) (N := 16) hx hb hts hi_RX3 hown hK hP 0 rfl rfl 7 (by decide) hf_31 (fun _ h9 => h9) rfl dX3_goesHome_1 ?_
  refine lv_sipush (v := nI 256) hx hb dX3_goesHome_4 (by decide) ?_
  refine lv_iload_n hx hb dX3_goesHome_7 rfl (lv_at hl 1 rfl) ?_
  refine mq_imul (x := 256) (y := w) hx hb dX3_goesHome_8 ?_
  refine lv_iload_n hx hb dX3_goesHome_9 rfl (lv_at hl 2 rfl) ?_
  refine mq_iadd (x := (256 * w)) (y := q) hx hb dX3_goesHome_10 ?_
  refine mq_ld (k := (256 * w + q)) bI md hx hb hK hP 8 0 rfl rfl (by omega) (Nat.le_of_ble_eq_true rfl) dX3_goesHome_11 ?_
  refine lv_iconst (v := nI 1) hx hb dX3_goesHome_12 (by decide) ?_
  refine lv_icmp_ne (x := bI (md (256 * w + q))) (y := 1) (tgt := 22) hx hb dX3_goesHome_13 (by decide) (fun c1 => ?_) (fun c1 => ?_)
  · exact CtV.ret hQ hx hb hr hlk hK hP hD hS dX3_goesHome_22 (congrArg (MDc cyI h a1 a2 a3 a4 a5 a6 a7 a8 a9 a10) (by unfold md_goes; dsimp only; rw [if_neg (fun hh => c1 (by rw [hh]; rfl))]))
  · have c2 := bI_1 (by first | exact c1 | (by_cases hh : bI (md (256 * w + q)) = 1; exact hh; exact absurd hh c1))
    refine lv_aload_n hx hb dX3_goesHome_16 rfl (lv_at hl 0 rfl) ?_
    refine lv_iload_n hx hb dX3_goesHome_17 rfl (lv_at hl 1 rfl) ?_
    refine lv_iload_n hx hb dX3_goesHome_18 rfl (lv_at hl 2 rfl) ?_
    refine CtV.callV (n := 2) (q0 := 0) (ci := 3) (wc := MDc cyI h a1 a2 a3 a4 a5 a6 a7 a8 a9 a10 (mw, mh, ms, mp, ml, mb, mm, md, mc, mhi, msw, mmi, mhc, ma, mq, mt)) (wr := ([] : va_W)) (w1 := MDc cyI h a1 a2 a3 a4 a5 a6 a7 a8 a9 a10 ((md_comes w q (mw, mh, ms, mp, ml, mb, mm, md, mc, mhi, msw, mmi, mhc, ma, mq, mt)).1, (md_comes w q (mw, mh, ms, mp, ml, mb, mm, md, mc, mhi, msw, mmi, mhc, ma, mq, mt)).2.1, (md_comes w q (mw, mh, ms, mp, ml, mb, mm, md, mc, mhi, msw, mmi, mhc, ma, mq, mt)).2.2.1, (md_comes w q (mw, mh, ms, mp, ml, mb, mm, md, mc, mhi, msw, mmi, mhc, ma, mq, mt)).2.2.2.1, (md_comes w q (mw, mh, ms, mp, ml, mb, mm, md, mc, mhi, msw, mmi, mhc, ma, mq, mt)).2.2.2.2.1, (md_comes w q (mw, mh, ms, mp, ml, mb, mm, md, mc, mhi, msw, mmi, mhc, ma, mq, mt)).2.2.2.2.2.1, (md_comes w q (mw, mh, ms, mp, ml, mb, mm, md, mc, mhi, msw, mmi, mhc, ma, mq, mt)).2.2.2.2.2.2.1, (md_comes w q (mw, mh, ms, mp, ml, mb, mm, md, mc, mhi, msw, mmi, mhc, ma, mq, mt)).2.2.2.2.2.2.2.1, (md_comes w q (mw, mh, ms, mp, ml, mb, mm, md, mc, mhi, msw, mmi, mhc, ma, mq, mt)).2.2.2.2.2.2.2.2.1, (md_comes w q (mw, mh, ms, mp, ml, mb, mm, md, mc, mhi, msw, mmi, mhc, ma, mq, mt)).2.2.2.2.2.2.2.2.2.1, (md_comes w q (mw, mh, ms, mp, ml, mb, mm, md, mc, mhi, msw, mmi, mhc, ma, mq, mt)).2.2.2.2.2.2.2.2.2.2.1, (md_comes w q (mw, mh, ms, mp, ml, mb, mm, md, mc, mhi, msw, mmi, mhc, ma, mq, mt)).2.2.2.2.2.2.2.2.2.2.2.1, (md_comes w q (mw, mh, ms, mp, ml, mb, mm, md, mc, mhi, msw, mmi, mhc, ma, mq, mt)).2.2.2.2.2.2.2.2.2.2.2.2.1, (md_comes w q (mw, mh, ms, mp, ml, mb, mm, md, mc, mhi, msw, mmi, mhc, ma, mq, mt)).2.2.2.2.2.2.2.2.2.2.2.2.2.1, (md_comes w q (mw, mh, ms, mp, ml, mb, mm, md, mc, mhi, msw, mmi, mhc, ma, mq, mt)).2.2.2.2.2.2.2.2.2.2.2.2.2.2.1, (md_comes w q (mw, mh, ms, mp, ml, mb, mm, md, mc, mhi, msw, mmi, mhc, ma, mq, mt)).2.2.2.2.2.2.2.2.2.2.2.2.2.2.2)) (ws' := MDc cyI h a1 a2 a3 a4 a5 a6 a7 a8 a9 a10 ((md_comes w q (mw, mh, ms, mp, ml, mb, mm, md, mc, mhi, msw, mmi, mhc, ma, mq, mt)).1, (md_comes w q (mw, mh, ms, mp, ml, mb, mm, md, mc, mhi, msw, mmi, mhc, ma, mq, mt)).2.1, (md_comes w q (mw, mh, ms, mp, ml, mb, mm, md, mc, mhi, msw, mmi, mhc, ma, mq, mt)).2.2.1, (md_comes w q (mw, mh, ms, mp, ml, mb, mm, md, mc, mhi, msw, mmi, mhc, ma, mq, mt)).2.2.2.1, (md_comes w q (mw, mh, ms, mp, ml, mb, mm, md, mc, mhi, msw, mmi, mhc, ma, mq, mt)).2.2.2.2.1, (md_comes w q (mw, mh, ms, mp, ml, mb, mm, md, mc, mhi, msw, mmi, mhc, ma, mq, mt)).2.2.2.2.2.1, (md_comes w q (mw, mh, ms, mp, ml, mb, mm, md, mc, mhi, msw, mmi, mhc, ma, mq, mt)).2.2.2.2.2.2.1, (md_comes w q (mw, mh, ms, mp, ml, mb, mm, md, mc, mhi, msw, mmi, mhc, ma, mq, mt)).2.2.2.2.2.2.2.1, (md_comes w q (mw, mh, ms, mp, ml, mb, mm, md, mc, mhi, msw, mmi, mhc, ma, mq, mt)).2.2.2.2.2.2.2.2.1, (md_comes w q (mw, mh, ms, mp, ml, mb, mm, md, mc, mhi, msw, mmi, mhc, ma, mq, mt)).2.2.2.2.2.2.2.2.2.1, (md_comes w q (mw, mh, ms, mp, ml, mb, mm, md, mc, mhi, msw, mmi, mhc, ma, mq, mt)).2.2.2.2.2.2.2.2.2.2.1, (md_comes w q (mw, mh, ms, mp, ml, mb, mm, md, mc, mhi, msw, mmi, mhc, ma, mq, mt)).2.2.2.2.2.2.2.2.2.2.2.1, (md_comes w q (mw, mh, ms, mp, ml, mb, mm, md, mc, mhi, msw, mmi, mhc, ma, mq, mt)).2.2.2.2.2.2.2.2.2.2.2.2.1, (md_comes w q (mw, mh, ms, mp, ml, mb, mm, md, mc, mhi, msw, mmi, mhc, ma, mq, mt)).2.2.2.2.2.2.2.2.2.2.2.2.2.1, (md_comes w q (mw, mh, ms, mp, ml, mb, mm, md, mc, mhi, msw, mmi, mhc, ma, mq, mt)).2.2.2.2.2.2.2.2.2.2.2.2.2.2.1, (md_comes w q (mw, mh, ms, mp, ml, mb, mm, md, mc, mhi, msw, mmi, mhc, ma, mq, mt)).2.2.2.2.2.2.2.2.2.2.2.2.2.2.2)) (isC := [0, 1, 2, 3, 4, 5, 6, 7, 8, 9, 10]) (isR := []) (ps := [0, 1, 2, 3, 4, 5, 6, 7, 8, 9, 10]) (As := [.int (nI w), .int (nI q)]) (rest := []) (m_comes l D cyI cyZ cyJ h a1 a2 a3 a4 a5 a6 a7 a8 a9 a10 mw mh ms mp ml mb mm md mc mhi msw mmi mhc ma mq mt w q hw hq) ⟨hx, hb, hown, hts⟩ gX3_goesHome_X3_comesHome rfl ⟨rfl, by decide, by decide, by decide +kernel⟩ ⟨Nat.le_of_ble_eq_true rfl, Nat.le_of_ble_eq_true rfl⟩ ⟨rfl, rfl⟩ hml hl.1 hK hP hD hS hA ⟨rfl, rfl, rfl, rfl, rfl, rfl, rfl⟩ rfl ⟨rfl, rfl⟩ rfl rfl (Nat.le_of_ble_eq_true rfl) ⟨Nat.zero_le _, Nat.zero_le _⟩ dX3_goesHome_19 (fun H locs hP hD hS => ?_)
    exact CtV.ret hQ hx hb hr hlk hK hP hD hS dX3_goesHome_22 (congrArg (MDc cyI h a1 a2 a3 a4 a5 a6 a7 a8 a9 a10) (by unfold md_goes; dsimp only; rw [if_pos c2]))
abbrev rmX3_seat : Room := { frames := 0, cells := 0, slots := 0, locals := 0 }
set_option maxRecDepth 100000 in
set_option maxHeartbeats 4000000 in
theorem m_seat (l : Launch) (D : va_G) (cyI cyZ cyJ : ClassId) (h a1 a2 a3 a4 a5 a6 a7 a8 a9 a10 : Nat) (mw : Nat → Int32) (mh : Nat → Int32) (ms : Nat → Nat) (mp : Nat → Nat) (ml : Nat → Option Nat) (mb : Nat → Nat) (mm : Nat → Nat) (md : Nat → Bool) (mc : Nat → Int32) (mhi : Int32) (msw : Int32) (mmi : Int32) (mhc : Int32) (ma : Nat → Nat) (mq : Nat) (mt : Nat) (w q : Nat) (hw : w < 2) (hm8 : mm w ≤ 8) (hb8 : ∀ k, k < mm w → mb (8 * w + k) < 256) (hq : q < 256) : CtI l yX3_seat wsX3_seat rmX3_seat D (T3 cyI cyZ cyJ) [.ref h, .int (nI w), .int (nI q)] (MDc cyI h a1 a2 a3 a4 a5 a6 a7 a8 a9 a10 (mw, mh, ms, mp, ml, mb, mm, md, mc, mhi, msw, mmi, mhc, ma, mq, mt)) (oI (fnd (fun k => decide (mb (8 * w + k) = q)) (mm w))) (MDc cyI h a1 a2 a3 a4 a5 a6 a7 a8 a9 a10 (mw, mh, ms, mp, ml, mb, mm, md, mc, mhi, msw, mmi, mhc, ma, mq, mt)) := by
  refine CtI.of (cc := cX3_seat) (maxL := 4) (ret := (some .int)) (lv0 := [(0, .ref h), (1, .int (nI w)), (2, .int (nI q))]) (by decide) rfl (Nat.le_of_ble_eq_true rfl) rfl ?_
  intro p e s m below meth c A ls args Q hx hb hml hr hlk hts hown hK hP hA hD hS hl hQ
  have hown : s.vm.findClass RX3 = some m.cls := hown
  have hi_RX3 : ∀ w ∈ wsX30, w ∈ wsX3_seat := by decide +kernel
  have hf_25 := hts (.fieldLink RX3 25 "OutcastBenchModel" "bench" "[I") (by decide +kernel)
  have hf_28 := hts (.fieldLink RX3 28 "OutcastBenchModel" "many" "[I") (by decide +kernel)
  refine lv_iconst (v := nI 0) hx hb dX3_seat_0 (by decide) ?_
  refine lv_istore_n (lv' := [(3, .int (nI 0)), (0, .ref h), (1, .int (nI w)), (2, .int (nI q))]) hx hb dX3_seat_1 rfl hl (by decide) rfl (fun ls hl => ?_)
  have LP2 : ∀ (fu : Nat) (i : Nat) (H : Heap) (locs : List Loc) (ls : Array Slot), (i ≤ mm w) → (∀ j, j < i → decide (mb (8 * w + j) = q) = false) → mm w - i < fu → va_P D vwCl (MDc cyI h a1 a2 a3 a4 a5 a6 a7 a8 a9 a10 (mw, mh, ms, mp, ml, mb, mm, md, mc, mhi, msw, mmi, mhc, ma, mq, mt)) H → va_D A (MDc cyI h a1 a2 a3 a4 a5 a6 a7 a8 a9 a10 (mw, mh, ms, mp, ml, mb, mm, md, mc, mhi, msw, mmi, mhc, ma, mq, mt)) → va_S A s.heap H locs → lv_has ls 4 [(0, .ref h), (1, .int (nI w)), (2, .int (nI q)), (3, .int (nI i))] → W p l e rmX3_seat s m args below meth c H locs 0 0 Q (F0 m 2 ls []) := by
    intro fu
    induction fu with
    | zero =>
      intro i H locs ls h2 hno hfu
      exact absurd hfu (Nat.not_lt_zero _)
    | succ fu ih =>
      intro i H locs ls h2 hno hfu hP hD hS hl
      refine lv_iload_n hx hb dX3_seat_2 rfl (lv_at hl 3 rfl) ?_
      refine lv_aload_n hx hb dX3_seat_3 rfl (lv_at hl 0 rfl) ?_
      refine va_get (D := D) (ci := 3) (v := .ref a7) (C := RX3) (T := TX3) (N := 16) hx hb hts hi_RX3 hown hK hP 0 rfl rfl 6 (by decide) hf_28 (fun _ h9 => h9) rfl dX3_seat_4 ?_
      refine lv_iload_n hx hb dX3_seat_7 rfl (lv_at hl 1 rfl) ?_
      refine mq_ld (k := w) nI mm hx hb hK hP 7 0 rfl rfl (by omega) (Nat.le_of_ble_eq_true rfl) dX3_seat_8 ?_
      refine mq_ge (x := i) (y := (mm w)) (tgt := 35) (by omega) (by omega) hx hb dX3_seat_9 (by decide) (fun c1 => ?_) (fun c1 => ?_)
      · refine lv_iconst (v := -1) hx hb dX3_seat_35 (by decide) ?_
        exact CtI.ret hQ hx hb hr hlk hK hP hD hS dX3_seat_36 (by rw [fnd_none (fun j hj => hno j (by omega))]; rfl) rfl
      · refine lv_aload_n hx hb dX3_seat_12 rfl (lv_at hl 0 rfl) ?_
        refine va_get (D := D) (ci := 3) (v := .ref a6) (C := RX3) (T := TX3) (N := 16) hx hb hts hi_RX3 hown hK hP 0 rfl rfl 5 (by decide) hf_25 (fun _ h9 => h9) rfl dX3_seat_13 ?_
        refine lv_bipush (v := nI 8) hx hb dX3_seat_16 (by decide) ?_
        refine lv_iload_n hx hb dX3_seat_18 rfl (lv_at hl 1 rfl) ?_
        refine mq_imul (x := 8) (y := w) hx hb dX3_seat_19 ?_
        refine lv_iload_n hx hb dX3_seat_20 rfl (lv_at hl 3 rfl) ?_
        refine mq_iadd (x := (8 * w)) (y := i) hx hb dX3_seat_21 ?_
        refine mq_ld (k := (8 * w + i)) nI mb hx hb hK hP 6 0 rfl rfl (by omega) (Nat.le_of_ble_eq_true rfl) dX3_seat_22 ?_
        refine lv_iload_n hx hb dX3_seat_23 rfl (lv_at hl 2 rfl) ?_
        refine mq_ne (x := (mb (8 * w + i))) (y := q) (tgt := 29) (by have := hb8 i (by omega); omega) (by omega) hx hb dX3_seat_24 (by decide) (fun c2 => ?_) (fun c2 => ?_)
        · refine lv_iinc (v := nI (i + 1)) (lv' := [(3, .int (nI (i + 1))), (0, .ref h), (1, .int (nI w)), (2, .int (nI q))]) hx hb dX3_seat_29 hl (k := 3) rfl (inc1 _) (by decide) rfl (fun ls hl => ?_)
          refine lv_goto (tgt := 2) hx hb dX3_seat_32 (by decide) ?_
          exact ih (i + 1) _ _ _ (by omega) (fun j hj => by by_cases e : j = i; (subst e; exact decide_eq_false c2); exact hno j (by omega)) (by omega) hP hD hS (lv_sub hl [1, 2, 3, 0] rfl)
        · refine lv_iload_n hx hb dX3_seat_27 rfl (lv_at hl 3 rfl) ?_
          exact CtI.ret hQ hx hb hr hlk hK hP hD hS dX3_seat_28 (by rw [fnd_some (by omega) hno (decide_eq_true c2)]; rfl) rfl
  exact LP2 _ 0 _ _ _ (Nat.zero_le _) (fun j hj => absurd hj (Nat.not_lt_zero j)) (Nat.lt_succ_self _) hP hD hS (lv_sub hl [1, 2, 3, 0] rfl)
abbrev rmX3_leavesBench : Room := { frames := 0, cells := 0, slots := 0, locals := 0 }
set_option maxRecDepth 100000 in
set_option maxHeartbeats 4000000 in
theorem m_leaves (l : Launch) (D : va_G) (cyI cyZ cyJ : ClassId) (h a1 a2 a3 a4 a5 a6 a7 a8 a9 a10 : Nat) (mw : Nat → Int32) (mh : Nat → Int32) (ms : Nat → Nat) (mp : Nat → Nat) (ml : Nat → Option Nat) (mb : Nat → Nat) (mm : Nat → Nat) (md : Nat → Bool) (mc : Nat → Int32) (mhi : Int32) (msw : Int32) (mmi : Int32) (mhc : Int32) (ma : Nat → Nat) (mq : Nat) (mt : Nat) (w k : Nat) (hw : w < 2) (hk : k < mm w) (hm8 : mm w ≤ 8) : CtV l yX3_leavesBench wsX3_leavesBench rmX3_leavesBench D (T3 cyI cyZ cyJ) [.ref h, .int (nI w), .int (nI k)] (MDc cyI h a1 a2 a3 a4 a5 a6 a7 a8 a9 a10 (mw, mh, ms, mp, ml, mb, mm, md, mc, mhi, msw, mmi, mhc, ma, mq, mt)) (MDc cyI h a1 a2 a3 a4 a5 a6 a7 a8 a9 a10 (md_leaves w k (mw, mh, ms, mp, ml, mb, mm, md, mc, mhi, msw, mmi, mhc, ma, mq, mt))) := by
  refine CtV.of (cc := cX3_leavesBench) (maxL := 4) (ret := none) (lv0 := [(0, .ref h), (1, .int (nI w)), (2, .int (nI k))]) (by decide) rfl (Nat.le_of_ble_eq_true rfl) rfl ?_
  intro p e s m below meth c A ls args Q hx hb hml hr hlk hts hown hK hP hA hD hS hl hQ
  have hown : s.vm.findClass RX3 = some m.cls := hown
  have hi_RX3 : ∀ w ∈ wsX30, w ∈ wsX3_leavesBench := by decide +kernel
  have hf_25 := hts (.fieldLink RX3 25 "OutcastBenchModel" "bench" "[I") (by decide +kernel)
  have hf_28 := hts (.fieldLink RX3 28 "OutcastBenchModel" "many" "[I") (by decide +kernel)
  refine lv_aload_n hx hb dX3_leavesBench_0 rfl (lv_at hl 0 rfl) ?_
  refine va_get (D := D) (ci := 3) (v := .ref a7) (C := RX3) (T := TX3) (N := 16) hx hb hts hi_RX3 hown hK hP 0 rfl rfl 6 (by decide) hf_28 (fun _ h9 => h9) rfl dX3_leavesBench_1 ?_
  refine lv_iload_n hx hb dX3_leavesBench_4 rfl (lv_at hl 1 rfl) ?_
  refine lv_dup2_11 hx hb dX3_leavesBench_5 rfl rfl ?_
  refine mq_ld (k := w) nI mm hx hb hK hP 7 0 rfl rfl (by omega) (Nat.le_of_ble_eq_true rfl) dX3_leavesBench_6 ?_
  refine lv_iconst (v := nI 1) hx hb dX3_leavesBench_7 (by decide) ?_
  refine mq_isub (x := (mm w)) (y := 1) (by omega) hx hb dX3_leavesBench_8 ?_
  refine mq_st (k := w) nI mm ((mm w) - 1) (ws' := MDc cyI h a1 a2 a3 a4 a5 a6 a7 a8 a9 a10 (mw, mh, ms, mp, ml, mb, ru mm w ((mm w) - 1), md, mc, mhi, msw, mmi, mhc, ma, mq, mt)) hx hb hK hP hD hS 7 0 rfl rfl (by omega) (Nat.le_of_ble_eq_true rfl) dX3_leavesBench_9 rfl (fun H locs hP hD hS => ?_)
  refine lv_iload_n hx hb dX3_leavesBench_10 rfl (lv_at hl 2 rfl) ?_
  refine lv_istore_n (lv' := [(3, .int (nI k)), (0, .ref h), (1, .int (nI w)), (2, .int (nI k))]) hx hb dX3_leavesBench_11 rfl hl (by decide) rfl (fun ls hl => ?_)
  rw [show mb = (shl mb (8 * w + k) (8 * w + k)) from (shl_0 mb (8 * w + k)).symm] at hP hD
  have LP12 : ∀ (fu : Nat) (i : Nat) (H : Heap) (locs : List Loc) (ls : Array Slot), (k ≤ i) → (i ≤ mm w - 1) → mm w - 1 - i < fu → va_P D vwCl (MDc cyI h a1 a2 a3 a4 a5 a6 a7 a8 a9 a10 (mw, mh, ms, mp, ml, shl mb (8 * w + k) (8 * w + i), ru mm w (mm w - 1), md, mc, mhi, msw, mmi, mhc, ma, mq, mt)) H → va_D A (MDc cyI h a1 a2 a3 a4 a5 a6 a7 a8 a9 a10 (mw, mh, ms, mp, ml, shl mb (8 * w + k) (8 * w + i), ru mm w (mm w - 1), md, mc, mhi, msw, mmi, mhc, ma, mq, mt)) → va_S A s.heap H locs → lv_has ls 4 [(0, .ref h), (1, .int (nI w)), (2, .int (nI k)), (3, .int (nI i))] → W p l e rmX3_leavesBench s m args below meth c H locs 0 0 Q (F0 m 12 ls []) := by
    intro fu
    induction fu with
    | zero =>
      intro i H locs ls h1 h2 hfu
      exact absurd hfu (Nat.not_lt_zero _)
    | succ fu ih =>
      intro i H locs ls h1 h2 hfu hP hD hS hl
      refine lv_iload_n hx hb dX3_leavesBench_12 rfl (lv_at hl 3 rfl) ?_
      refine lv_aload_n hx hb dX3_leavesBench_13 rfl (lv_at hl 0 rfl) ?_
      refine va_get (D := D) (ci := 3) (v := .ref a7) (C := RX3) (T := TX3) (N := 16) hx hb hts hi_RX3 hown hK hP 0 rfl rfl 6 (by decide) hf_28 (fun _ h9 => h9) rfl dX3_leavesBench_14 ?_
      refine lv_iload_n hx hb dX3_leavesBench_17 rfl (lv_at hl 1 rfl) ?_
      refine mq_ld (k := w) nI (ru mm w (mm w - 1)) hx hb hK hP 7 0 rfl rfl (by omega) (Nat.le_of_ble_eq_true rfl) dX3_leavesBench_18 ?_
      rw [show nI ((ru mm w (mm w - 1)) w) = nI (mm w - 1) from (by rw [ru_s])]
      refine mq_ge (x := i) (y := (mm w - 1)) (tgt := 52) (by omega) (by omega) hx hb dX3_leavesBench_19 (by decide) (fun c1 => ?_) (fun c1 => ?_)
      · have e : i = mm w - 1 := by omega
        subst e
        exact CtV.ret hQ hx hb hr hlk hK hP hD hS dX3_leavesBench_52 rfl
      · refine lv_aload_n hx hb dX3_leavesBench_22 rfl (lv_at hl 0 rfl) ?_
        refine va_get (D := D) (ci := 3) (v := .ref a6) (C := RX3) (T := TX3) (N := 16) hx hb hts hi_RX3 hown hK hP 0 rfl rfl 5 (by decide) hf_25 (fun _ h9 => h9) rfl dX3_leavesBench_23 ?_
        refine lv_bipush (v := nI 8) hx hb dX3_leavesBench_26 (by decide) ?_
        refine lv_iload_n hx hb dX3_leavesBench_28 rfl (lv_at hl 1 rfl) ?_
        refine mq_imul (x := 8) (y := w) hx hb dX3_leavesBench_29 ?_
        refine lv_iload_n hx hb dX3_leavesBench_30 rfl (lv_at hl 3 rfl) ?_
        refine mq_iadd (x := (8 * w)) (y := i) hx hb dX3_leavesBench_31 ?_
        refine lv_aload_n hx hb dX3_leavesBench_32 rfl (lv_at hl 0 rfl) ?_
        refine va_get (D := D) (ci := 3) (v := .ref a6) (C := RX3) (T := TX3) (N := 16) hx hb hts hi_RX3 hown hK hP 0 rfl rfl 5 (by decide) hf_25 (fun _ h9 => h9) rfl dX3_leavesBench_33 ?_
        refine lv_bipush (v := nI 8) hx hb dX3_leavesBench_36 (by decide) ?_
        refine lv_iload_n hx hb dX3_leavesBench_38 rfl (lv_at hl 1 rfl) ?_
        refine mq_imul (x := 8) (y := w) hx hb dX3_leavesBench_39 ?_
        refine lv_iload_n hx hb dX3_leavesBench_40 rfl (lv_at hl 3 rfl) ?_
        refine mq_iadd (x := (8 * w)) (y := i) hx hb dX3_leavesBench_41 ?_
        refine lv_iconst (v := nI 1) hx hb dX3_leavesBench_42 (by decide) ?_
        refine mq_iadd (x := (8 * w + i)) (y := 1) hx hb dX3_leavesBench_43 ?_
        refine mq_ld (k := (8 * w + i + 1)) nI (shl mb (8 * w + k) (8 * w + i)) hx hb hK hP 6 0 rfl rfl (by omega) (Nat.le_of_ble_eq_true rfl) dX3_leavesBench_44 ?_
        refine mq_st (k := (8 * w + i)) nI (shl mb (8 * w + k) (8 * w + i)) ((shl mb (8 * w + k) (8 * w + i)) (8 * w + i + 1)) (ws' := MDc cyI h a1 a2 a3 a4 a5 a6 a7 a8 a9 a10 (mw, mh, ms, mp, ml, ru (shl mb (8 * w + k) (8 * w + i)) (8 * w + i) ((shl mb (8 * w + k) (8 * w + i)) (8 * w + i + 1)), ru mm w (mm w - 1), md, mc, mhi, msw, mmi, mhc, ma, mq, mt)) hx hb hK hP hD hS 6 0 rfl rfl (by omega) (Nat.le_of_ble_eq_true rfl) dX3_leavesBench_45 rfl (fun H locs hP hD hS => ?_)
        rw [show (ru (shl mb (8 * w + k) (8 * w + i)) (8 * w + i) ((shl mb (8 * w + k) (8 * w + i)) (8 * w + i + 1))) = (shl mb (8 * w + k) (8 * w + (i + 1))) from shl_s (by omega)] at hP hD
        refine lv_iinc (v := nI (i + 1)) (lv' := [(3, .int (nI (i + 1))), (0, .ref h), (1, .int (nI w)), (2, .int (nI k))]) hx hb dX3_leavesBench_46 hl (k := 3) rfl (inc1 _) (by decide) rfl (fun ls hl => ?_)
        refine lv_goto (tgt := 12) hx hb dX3_leavesBench_49 (by decide) ?_
        exact ih (i + 1) _ _ _ (by omega) (by omega) (by omega) hP hD hS (lv_sub hl [1, 2, 3, 0] rfl)
  exact LP12 _ k _ _ _ (Nat.le_refl _) (by omega) (Nat.lt_succ_self _) hP hD hS (lv_sub hl [1, 2, 3, 0] rfl)
abbrev rmX3_sits : Room := { frames := 0, cells := 0, slots := 0, locals := 0 }
set_option maxRecDepth 100000 in
set_option maxHeartbeats 4000000 in
theorem m_sits (l : Launch) (D : va_G) (cyI cyZ cyJ : ClassId) (h a1 a2 a3 a4 a5 a6 a7 a8 a9 a10 : Nat) (mw : Nat → Int32) (mh : Nat → Int32) (ms : Nat → Nat) (mp : Nat → Nat) (ml : Nat → Option Nat) (mb : Nat → Nat) (mm : Nat → Nat) (md : Nat → Bool) (mc : Nat → Int32) (mhi : Int32) (msw : Int32) (mmi : Int32) (mhc : Int32) (ma : Nat → Nat) (mq : Nat) (mt : Nat) (w q : Nat) (hw : w < 2) (hm8 : mm w < 8) : CtV l yX3_sits wsX3_sits rmX3_sits D (T3 cyI cyZ cyJ) [.ref h, .int (nI w), .int (nI q)] (MDc cyI h a1 a2 a3 a4 a5 a6 a7 a8 a9 a10 (mw, mh, ms, mp, ml, mb, mm, md, mc, mhi, msw, mmi, mhc, ma, mq, mt)) (MDc cyI h a1 a2 a3 a4 a5 a6 a7 a8 a9 a10 (md_sits w q (mw, mh, ms, mp, ml, mb, mm, md, mc, mhi, msw, mmi, mhc, ma, mq, mt))) := by
  refine CtV.of (cc := cX3_sits) (maxL := 4) (ret := none) (lv0 := [(0, .ref h), (1, .int (nI w)), (2, .int (nI q))]) (by decide) rfl (Nat.le_of_ble_eq_true rfl) rfl ?_
  intro p e s m below meth c A ls args Q hx hb hml hr hlk hts hown hK hP hA hD hS hl hQ
  have hown : s.vm.findClass RX3 = some m.cls := hown
  have hi_RX3 : ∀ w ∈ wsX30, w ∈ wsX3_sits := by decide +kernel
  have hf_25 := hts (.fieldLink RX3 25 "OutcastBenchModel" "bench" "[I") (by decide +kernel)
  have hf_28 := hts (.fieldLink RX3 28 "OutcastBenchModel" "many" "[I") (by decide +kernel)
  refine lv_aload_n hx hb dX3_sits_0 rfl (lv_at hl 0 rfl) ?_
  refine va_get (D := D) (ci := 3) (v := .ref a7) (C := RX3) (T := TX3) (N := 16) hx hb hts hi_RX3 hown hK hP 0 rfl rfl 6 (by decide) hf_28 (fun _ h9 => h9) rfl dX3_sits_1 ?_
  refine lv_iload_n hx hb dX3_sits_4 rfl (lv_at hl 1 rfl) ?_
  refine mq_ld (k := w) nI mm hx hb hK hP 7 0 rfl rfl (by omega) (Nat.le_of_ble_eq_true rfl) dX3_sits_5 ?_
  refine lv_istore_n (lv' := [(3, .int (nI (mm w))), (0, .ref h), (1, .int (nI w)), (2, .int (nI q))]) hx hb dX3_sits_6 rfl hl (by decide) rfl (fun ls hl => ?_)
  rw [show mb = (shr mb (8 * w + mm w) (8 * w + mm w)) from (shr_0 mb (8 * w + mm w)).symm] at hP hD
  have LP7 : ∀ (fu : Nat) (k : Nat) (H : Heap) (locs : List Loc) (ls : Array Slot), (k ≤ mm w) → k < fu → va_P D vwCl (MDc cyI h a1 a2 a3 a4 a5 a6 a7 a8 a9 a10 (mw, mh, ms, mp, ml, shr mb (8 * w + k) (8 * w + mm w), mm, md, mc, mhi, msw, mmi, mhc, ma, mq, mt)) H → va_D A (MDc cyI h a1 a2 a3 a4 a5 a6 a7 a8 a9 a10 (mw, mh, ms, mp, ml, shr mb (8 * w + k) (8 * w + mm w), mm, md, mc, mhi, msw, mmi, mhc, ma, mq, mt)) → va_S A s.heap H locs → lv_has ls 4 [(0, .ref h), (1, .int (nI w)), (2, .int (nI q)), (3, .int (nI k))] → W p l e rmX3_sits s m args below meth c H locs 0 0 Q (F0 m 7 ls []) := by
    intro fu
    induction fu with
    | zero =>
      intro k H locs ls h2 hfu
      exact absurd hfu (Nat.not_lt_zero _)
    | succ fu ih =>
      intro k H locs ls h2 hfu hP hD hS hl
      refine lv_iload_n hx hb dX3_sits_7 rfl (lv_at hl 3 rfl) ?_
      refine lv_if_le (x := nI k) (tgt := 41) hx hb dX3_sits_8 (by decide) (fun c1 => ?_) (fun c1 => ?_)
      · have e : k = 0 := nI_le0 (by omega) c1
        subst e
        have hP : va_P D vwCl (MDc cyI h a1 a2 a3 a4 a5 a6 a7 a8 a9 a10 (mw, mh, ms, mp, ml, shr mb (8 * w) (8 * w + mm w), mm, md, mc, mhi, msw, mmi, mhc, ma, mq, mt)) H := hP
        have hD : va_D A (MDc cyI h a1 a2 a3 a4 a5 a6 a7 a8 a9 a10 (mw, mh, ms, mp, ml, shr mb (8 * w) (8 * w + mm w), mm, md, mc, mhi, msw, mmi, mhc, ma, mq, mt)) := hD
        refine lv_aload_n hx hb dX3_sits_41 rfl (lv_at hl 0 rfl) ?_
        refine va_get (D := D) (ci := 3) (v := .ref a6) (C := RX3) (T := TX3) (N := 16) hx hb hts hi_RX3 hown hK hP 0 rfl rfl 5 (by decide) hf_25 (fun _ h9 => h9) rfl dX3_sits_42 ?_
        refine lv_bipush (v := nI 8) hx hb dX3_sits_45 (by decide) ?_
        refine lv_iload_n hx hb dX3_sits_47 rfl (lv_at hl 1 rfl) ?_
        refine mq_imul (x := 8) (y := w) hx hb dX3_sits_48 ?_
        refine lv_iload_n hx hb dX3_sits_49 rfl (lv_at hl 2 rfl) ?_
        refine mq_st (k := (8 * w)) nI (shr mb (8 * w) (8 * w + mm w)) q (ws' := MDc cyI h a1 a2 a3 a4 a5 a6 a7 a8 a9 a10 (mw, mh, ms, mp, ml, ru (shr mb (8 * w) (8 * w + mm w)) (8 * w) q, mm, md, mc, mhi, msw, mmi, mhc, ma, mq, mt)) hx hb hK hP hD hS 6 0 rfl rfl (by omega) (Nat.le_of_ble_eq_true rfl) dX3_sits_50 rfl (fun H locs hP hD hS => ?_)
        refine lv_aload_n hx hb dX3_sits_51 rfl (lv_at hl 0 rfl) ?_
        refine va_get (D := D) (ci := 3) (v := .ref a7) (C := RX3) (T := TX3) (N := 16) hx hb hts hi_RX3 hown hK hP 0 rfl rfl 6 (by decide) hf_28 (fun _ h9 => h9) rfl dX3_sits_52 ?_
        refine lv_iload_n hx hb dX3_sits_55 rfl (lv_at hl 1 rfl) ?_
        refine lv_dup2_11 hx hb dX3_sits_56 rfl rfl ?_
        refine mq_ld (k := w) nI mm hx hb hK hP 7 0 rfl rfl (by omega) (Nat.le_of_ble_eq_true rfl) dX3_sits_57 ?_
        refine lv_iconst (v := nI 1) hx hb dX3_sits_58 (by decide) ?_
        refine mq_iadd (x := (mm w)) (y := 1) hx hb dX3_sits_59 ?_
        refine mq_st (k := w) nI mm (mm w + 1) (ws' := MDc cyI h a1 a2 a3 a4 a5 a6 a7 a8 a9 a10 (mw, mh, ms, mp, ml, ru (shr mb (8 * w) (8 * w + mm w)) (8 * w) q, ru mm w (mm w + 1), md, mc, mhi, msw, mmi, mhc, ma, mq, mt)) hx hb hK hP hD hS 7 0 rfl rfl (by omega) (Nat.le_of_ble_eq_true rfl) dX3_sits_60 rfl (fun H locs hP hD hS => ?_)
        exact CtV.ret hQ hx hb hr hlk hK hP hD hS dX3_sits_61 rfl
      · have hk0 : 0 < k := nI_nle0 c1
        refine lv_aload_n hx hb dX3_sits_11 rfl (lv_at hl 0 rfl) ?_
        refine va_get (D := D) (ci := 3) (v := .ref a6) (C := RX3) (T := TX3) (N := 16) hx hb hts hi_RX3 hown hK hP 0 rfl rfl 5 (by decide) hf_25 (fun _ h9 => h9) rfl dX3_sits_12 ?_
        refine lv_bipush (v := nI 8) hx hb dX3_sits_15 (by decide) ?_
        refine lv_iload_n hx hb dX3_sits_17 rfl (lv_at hl 1 rfl) ?_
        refine mq_imul (x := 8) (y := w) hx hb dX3_sits_18 ?_
        refine lv_iload_n hx hb dX3_sits_19 rfl (lv_at hl 3 rfl) ?_
        refine mq_iadd (x := (8 * w)) (y := k) hx hb dX3_sits_20 ?_
        refine lv_aload_n hx hb dX3_sits_21 rfl (lv_at hl 0 rfl) ?_
        refine va_get (D := D) (ci := 3) (v := .ref a6) (C := RX3) (T := TX3) (N := 16) hx hb hts hi_RX3 hown hK hP 0 rfl rfl 5 (by decide) hf_25 (fun _ h9 => h9) rfl dX3_sits_22 ?_
        refine lv_bipush (v := nI 8) hx hb dX3_sits_25 (by decide) ?_
        refine lv_iload_n hx hb dX3_sits_27 rfl (lv_at hl 1 rfl) ?_
        refine mq_imul (x := 8) (y := w) hx hb dX3_sits_28 ?_
        refine lv_iload_n hx hb dX3_sits_29 rfl (lv_at hl 3 rfl) ?_
        refine mq_iadd (x := (8 * w)) (y := k) hx hb dX3_sits_30 ?_
        refine lv_iconst (v := nI 1) hx hb dX3_sits_31 (by decide) ?_
        refine mq_isub (x := (8 * w + k)) (y := 1) (by omega) hx hb dX3_sits_32 ?_
        refine mq_ld (k := (8 * w + k - 1)) nI (shr mb (8 * w + k) (8 * w + mm w)) hx hb hK hP 6 0 rfl rfl (by omega) (Nat.le_of_ble_eq_true rfl) dX3_sits_33 ?_
        refine mq_st (k := (8 * w + k)) nI (shr mb (8 * w + k) (8 * w + mm w)) ((shr mb (8 * w + k) (8 * w + mm w)) (8 * w + k - 1)) (ws' := MDc cyI h a1 a2 a3 a4 a5 a6 a7 a8 a9 a10 (mw, mh, ms, mp, ml, ru (shr mb (8 * w + k) (8 * w + mm w)) (8 * w + k) ((shr mb (8 * w + k) (8 * w + mm w)) (8 * w + k - 1)), mm, md, mc, mhi, msw, mmi, mhc, ma, mq, mt)) hx hb hK hP hD hS 6 0 rfl rfl (by omega) (Nat.le_of_ble_eq_true rfl) dX3_sits_34 rfl (fun H locs hP hD hS => ?_)
        rw [show (ru (shr mb (8 * w + k) (8 * w + mm w)) (8 * w + k) ((shr mb (8 * w + k) (8 * w + mm w)) (8 * w + k - 1))) = (shr mb (8 * w + (k - 1)) (8 * w + mm w)) from (by have h7 := shr_s (f := mb) (a := 8 * w) (i := 8 * w + k) (b := 8 * w + mm w) (by omega) (by omega); rw [show 8 * w + k - 1 = 8 * w + (k - 1) by omega] at h7 ⊢; exact h7)] at hP hD
        refine lv_iinc (v := nI (k - 1)) (lv' := [(3, .int (nI (k - 1))), (0, .ref h), (1, .int (nI w)), (2, .int (nI q))]) hx hb dX3_sits_35 hl (k := 3) rfl (dec1 hk0) (by decide) rfl (fun ls hl => ?_)
        refine lv_goto (tgt := 7) hx hb dX3_sits_38 (by decide) ?_
        exact ih (k - 1) _ _ _ (by omega) (by omega) hP hD hS (lv_sub hl [1, 2, 3, 0] rfl)
  exact LP7 _ (mm w) _ _ _ (Nat.le_refl _) (Nat.lt_succ_self _) hP hD hS (lv_sub hl [1, 2, 3, 0] rfl)

abbrev rmX3_read : Room := { frames := 5, cells := 0, slots := 0, locals := 118 }
set_option maxRecDepth 100000 in
set_option maxHeartbeats 4000000 in
theorem m_read (l : Launch) (D : va_G) (cyI cyZ cyJ : ClassId) (h a1 a2 a3 a4 a5 a6 a7 a8 a9 a10 : Nat) (mw : Nat → Int32) (mh : Nat → Int32) (ms : Nat → Nat) (mp : Nat → Nat) (ml : Nat → Option Nat) (mb : Nat → Nat) (mm : Nat → Nat) (md : Nat → Bool) (mc : Nat → Int32) (mhi : Int32) (msw : Int32) (mmi : Int32) (mhc : Int32) (ma : Nat → Nat) (mq : Nat) (mt : Nat) (a : Nat) (hb9 : md_bd 0 (mw, mh, ms, mp, ml, mb, mm, md, mc, mhi, msw, mmi, mhc, ma, mq, mt)) (hab : md_abd (mw, mh, ms, mp, ml, mb, mm, md, mc, mhi, msw, mmi, mhc, ma, mq, mt)) (ha : a < 1024) : CtI l yX3_read wsX3_read rmX3_read D (T3 cyI cyZ cyJ) [.ref h, .int (nI a)] (MDc cyI h a1 a2 a3 a4 a5 a6 a7 a8 a9 a10 (mw, mh, ms, mp, ml, mb, mm, md, mc, mhi, msw, mmi, mhc, ma, mq, mt)) (mw a) (MDc cyI h a1 a2 a3 a4 a5 a6 a7 a8 a9 a10 (md_ask (a / 4) false (md_thr 0 (mw, mh, ms, mp, ml, mb, mm, md, mc, mhi, msw, mmi, mhc, ma, mq, mt)))) := by
  refine CtI.of (cc := cX3_read) (maxL := 2) (ret := (some .int)) (lv0 := [(0, .ref h), (1, .int (nI a))]) (by decide) rfl (Nat.le_of_ble_eq_true rfl) rfl ?_
  intro p e s m below meth c A ls args Q hx hb hml hr hlk hts hown hK hP hA hD hS hl hQ
  have hown : s.vm.findClass RX3 = some m.cls := hown
  have hi_RX3 : ∀ w ∈ wsX30, w ∈ wsX3_read := by decide +kernel
  have hf_7 := hts (.fieldLink RX3 7 "OutcastBenchModel" "written" "[I") (by decide +kernel)
  have hf_44 := hts (.fieldLink RX3 44 "OutcastBenchModel" "thrown" "I") (by decide +kernel)
  refine lv_aload_n hx hb dX3_read_0 rfl (lv_at hl 0 rfl) ?_
  refine lv_iload_n hx hb dX3_read_1 rfl (lv_at hl 1 rfl) ?_
  refine CtI.callS (n := 1) (wc := ([] : va_W)) (wr := MDc cyI h a1 a2 a3 a4 a5 a6 a7 a8 a9 a10 (mw, mh, ms, mp, ml, mb, mm, md, mc, mhi, msw, mmi, mhc, ma, mq, mt)) (w1 := ([] : va_W)) (ws' := MDc cyI h a1 a2 a3 a4 a5 a6 a7 a8 a9 a10 (mw, mh, ms, mp, ml, mb, mm, md, mc, mhi, msw, mmi, mhc, ma, mq, mt)) (isC := []) (isR := [0, 1, 2, 3, 4, 5, 6, 7, 8, 9, 10]) (ps := [0, 1, 2, 3, 4, 5, 6, 7, 8, 9, 10]) (As := [.int (nI a)]) (rest := [.ref h]) (m_isWord l D cyI cyZ cyJ a ha) ⟨hx, hb, hown, hts⟩ gX3_read_X3_isWord rfl ⟨by decide, by decide, by decide +kernel⟩ ⟨Nat.le_of_ble_eq_true rfl, Nat.le_of_ble_eq_true rfl⟩ ⟨rfl, rfl⟩ hml hl.1 hK hP hD hS hA ⟨rfl, rfl, rfl, rfl, rfl, rfl, rfl⟩ rfl rfl (Nat.le_of_ble_eq_true rfl) ⟨Nat.zero_le _, Nat.zero_le _⟩ dX3_read_2 (fun H locs hP hD hS => ?_)
  refine mq_bz (b := true) (tgt := 12) hx hb dX3_read_5 (by decide) (fun c1 => ?_) (fun c1 => ?_)
  · exact absurd c1 (by decide)
  · refine lv_iconst (v := nI 0) hx hb dX3_read_8 (by decide) ?_
    refine lv_goto (tgt := 13) hx hb dX3_read_9 (by decide) ?_
    refine mq_put (D := D) (ci := 3) (v := .int (nI 0)) (ty := .int) (C := RX3) (T := TX3) (N := 16) (ws' := MDc cyI h a1 a2 a3 a4 a5 a6 a7 a8 a9 a10 (mw, mh, ms, mp, ml, mb, mm, md, mc, mhi, msw, mmi, mhc, ma, mq, 0)) hx hb hts hi_RX3 tyX3 tyX3_ok nmX3 hown hK hP hD hS 0 rfl rfl 15 (by decide) hf_44 (fun _ h9 => h9) rfl (by decide +kernel) rfl rfl (Nat.le_of_ble_eq_true rfl) dX3_read_13 rfl (fun H locs hP hD hS => ?_)
    refine lv_aload_n hx hb dX3_read_16 rfl (lv_at hl 0 rfl) ?_
    refine va_get (D := D) (ci := 3) (v := .int (nI 0)) (C := RX3) (T := TX3) (N := 16) hx hb hts hi_RX3 hown hK hP 0 rfl rfl 15 (by decide) hf_44 (fun _ h9 => h9) rfl dX3_read_17 ?_
    refine mq_z (x := 0) (tgt := 25) (by omega) hx hb dX3_read_20 (by decide) (fun c2 => ?_) (fun c2 => ?_)
    · refine lv_aload_n hx hb dX3_read_25 rfl (lv_at hl 0 rfl) ?_
      refine lv_iload_n hx hb dX3_read_26 rfl (lv_at hl 1 rfl) ?_
      refine lv_iconst (v := nI 4) hx hb dX3_read_27 (by decide) ?_
      refine mq_idiv (x := a) (y := 4) (by omega) (by decide) (by decide) hx hb dX3_read_28 ?_
      refine lv_iconst (v := nI 0) hx hb dX3_read_29 (by decide) ?_
      obtain ⟨⟨mw1, mh1, ms1, mp1, ml1, mb1, mm1, md1, mc1, mhi1, msw1, mmi1, mhc1, ma1, mq1, mt1⟩, hv1⟩ : ∃ z : MDu, z = md_ask (a / 4) false (mw, mh, ms, mp, ml, mb, mm, md, mc, mhi, msw, mmi, mhc, ma, mq, 0) := ⟨_, rfl⟩
      have hT := m_ask l D cyI cyZ cyJ h a1 a2 a3 a4 a5 a6 a7 a8 a9 a10 mw mh ms mp ml mb mm md mc mhi msw mmi mhc ma mq 0 (a / 4) false (md_bd_thr 0 hb9) (md_abd_thr 0 hab) (by omega)
      rw [← hv1] at hT
      have hw1 : mw1 = mw := by have h9 := (md_ask_mw (a / 4) false (mw, mh, ms, mp, ml, mb, mm, md, mc, mhi, msw, mmi, mhc, ma, mq, 0)).1; rw [← hv1] at h9; exact h9
      refine CtV.callV (n := 2) (q0 := 0) (ci := 3) (wc := MDc cyI h a1 a2 a3 a4 a5 a6 a7 a8 a9 a10 (mw, mh, ms, mp, ml, mb, mm, md, mc, mhi, msw, mmi, mhc, ma, mq, 0)) (wr := ([] : va_W)) (w1 := MDc cyI h a1 a2 a3 a4 a5 a6 a7 a8 a9 a10 (mw1, mh1, ms1, mp1, ml1, mb1, mm1, md1, mc1, mhi1, msw1, mmi1, mhc1, ma1, mq1, mt1)) (ws' := MDc cyI h a1 a2 a3 a4 a5 a6 a7 a8 a9 a10 (mw1, mh1, ms1, mp1, ml1, mb1, mm1, md1, mc1, mhi1, msw1, mmi1, mhc1, ma1, mq1, mt1)) (isC := [0, 1, 2, 3, 4, 5, 6, 7, 8, 9, 10]) (isR := []) (ps := [0, 1, 2, 3, 4, 5, 6, 7, 8, 9, 10]) (As := [.int (nI (a / 4)), .int (bI false)]) (rest := []) (hT) ⟨hx, hb, hown, hts⟩ gX3_read_X3_asks rfl ⟨rfl, by decide, by decide, by decide +kernel⟩ ⟨Nat.le_of_ble_eq_true rfl, Nat.le_of_ble_eq_true rfl⟩ ⟨rfl, rfl⟩ hml hl.1 hK hP hD hS hA ⟨rfl, rfl, rfl, rfl, rfl, rfl, rfl⟩ rfl ⟨rfl, rfl⟩ rfl rfl (Nat.le_of_ble_eq_true rfl) ⟨Nat.zero_le _, Nat.zero_le _⟩ dX3_read_30 (fun H locs hP hD hS => ?_)
      refine lv_aload_n hx hb dX3_read_33 rfl (lv_at hl 0 rfl) ?_
      refine va_get (D := D) (ci := 3) (v := .ref a1) (C := RX3) (T := TX3) (N := 16) hx hb hts hi_RX3 hown hK hP 0 rfl rfl 0 (by decide) hf_7 (fun _ h9 => h9) rfl dX3_read_34 ?_
      refine lv_iload_n hx hb dX3_read_37 rfl (lv_at hl 1 rfl) ?_
      refine mq_ldR (k := a) mw1 hx hb hK hP 1 0 rfl rfl (by omega) (Nat.le_of_ble_eq_true rfl) dX3_read_38 ?_
      exact CtI.ret hQ hx hb hr hlk hK hP hD hS dX3_read_39 (by rw [hw1]) (congrArg (MDc cyI h a1 a2 a3 a4 a5 a6 a7 a8 a9 a10) hv1)
    · exact absurd c2 (by decide)
set_option maxRecDepth 100000 in
set_option maxHeartbeats 4000000 in
theorem m_readN (l : Launch) (D : va_G) (cyI cyZ cyJ : ClassId) (h a1 a2 a3 a4 a5 a6 a7 a8 a9 a10 : Nat) (mw : Nat → Int32) (mh : Nat → Int32) (ms : Nat → Nat) (mp : Nat → Nat) (ml : Nat → Option Nat) (mb : Nat → Nat) (mm : Nat → Nat) (md : Nat → Bool) (mc : Nat → Int32) (mhi : Int32) (msw : Int32) (mmi : Int32) (mhc : Int32) (ma : Nat → Nat) (mq : Nat) (mt : Nat) (x : Int32) (hbad : x < 0 ∨ nI 1024 ≤ x) : CtI l yX3_read wsX3_read rmX3_read D (T3 cyI cyZ cyJ) [.ref h, .int x] (MDc cyI h a1 a2 a3 a4 a5 a6 a7 a8 a9 a10 (mw, mh, ms, mp, ml, mb, mm, md, mc, mhi, msw, mmi, mhc, ma, mq, mt)) (nI 0) (MDc cyI h a1 a2 a3 a4 a5 a6 a7 a8 a9 a10 (md_thr 1 (mw, mh, ms, mp, ml, mb, mm, md, mc, mhi, msw, mmi, mhc, ma, mq, mt))) := by
  refine CtI.of (cc := cX3_read) (maxL := 2) (ret := (some .int)) (lv0 := [(0, .ref h), (1, .int x)]) (by decide) rfl (Nat.le_of_ble_eq_true rfl) rfl ?_
  intro p e s m below meth c A ls args Q hx hb hml hr hlk hts hown hK hP hA hD hS hl hQ
  have hown : s.vm.findClass RX3 = some m.cls := hown
  have hi_RX3 : ∀ w ∈ wsX30, w ∈ wsX3_read := by decide +kernel
  have hf_44 := hts (.fieldLink RX3 44 "OutcastBenchModel" "thrown" "I") (by decide +kernel)
  refine lv_aload_n hx hb dX3_read_0 rfl (lv_at hl 0 rfl) ?_
  refine lv_iload_n hx hb dX3_read_1 rfl (lv_at hl 1 rfl) ?_
  refine CtI.callS (n := 1) (wc := ([] : va_W)) (wr := MDc cyI h a1 a2 a3 a4 a5 a6 a7 a8 a9 a10 (mw, mh, ms, mp, ml, mb, mm, md, mc, mhi, msw, mmi, mhc, ma, mq, mt)) (w1 := ([] : va_W)) (ws' := MDc cyI h a1 a2 a3 a4 a5 a6 a7 a8 a9 a10 (mw, mh, ms, mp, ml, mb, mm, md, mc, mhi, msw, mmi, mhc, ma, mq, mt)) (isC := []) (isR := [0, 1, 2, 3, 4, 5, 6, 7, 8, 9, 10]) (ps := [0, 1, 2, 3, 4, 5, 6, 7, 8, 9, 10]) (As := [.int x]) (rest := [.ref h]) (m_isWordN l D cyI cyZ cyJ x hbad) ⟨hx, hb, hown, hts⟩ gX3_read_X3_isWord rfl ⟨by decide, by decide, by decide +kernel⟩ ⟨Nat.le_of_ble_eq_true rfl, Nat.le_of_ble_eq_true rfl⟩ ⟨rfl, rfl⟩ hml hl.1 hK hP hD hS hA ⟨rfl, rfl, rfl, rfl, rfl, rfl, rfl⟩ rfl rfl (Nat.le_of_ble_eq_true rfl) ⟨Nat.zero_le _, Nat.zero_le _⟩ dX3_read_2 (fun H locs hP hD hS => ?_)
  refine mq_bz (b := false) (tgt := 12) hx hb dX3_read_5 (by decide) (fun c1 => ?_) (fun c1 => ?_)
  · refine lv_iconst (v := nI 1) hx hb dX3_read_12 (by decide) ?_
    refine mq_put (D := D) (ci := 3) (v := .int (nI 1)) (ty := .int) (C := RX3) (T := TX3) (N := 16) (ws' := MDc cyI h a1 a2 a3 a4 a5 a6 a7 a8 a9 a10 (mw, mh, ms, mp, ml, mb, mm, md, mc, mhi, msw, mmi, mhc, ma, mq, 1)) hx hb hts hi_RX3 tyX3 tyX3_ok nmX3 hown hK hP hD hS 0 rfl rfl 15 (by decide) hf_44 (fun _ h9 => h9) rfl (by decide +kernel) rfl rfl (Nat.le_of_ble_eq_true rfl) dX3_read_13 rfl (fun H locs hP hD hS => ?_)
    refine lv_aload_n hx hb dX3_read_16 rfl (lv_at hl 0 rfl) ?_
    refine va_get (D := D) (ci := 3) (v := .int (nI 1)) (C := RX3) (T := TX3) (N := 16) hx hb hts hi_RX3 hown hK hP 0 rfl rfl 15 (by decide) hf_44 (fun _ h9 => h9) rfl dX3_read_17 ?_
    refine mq_z (x := 1) (tgt := 25) (by omega) hx hb dX3_read_20 (by decide) (fun c2 => ?_) (fun c2 => ?_)
    · exact absurd c2 (by decide)
    · refine lv_iconst (v := nI 0) hx hb dX3_read_23 (by decide) ?_
      exact CtI.ret hQ hx hb hr hlk hK hP hD hS dX3_read_24 rfl (congrArg (MDc cyI h a1 a2 a3 a4 a5 a6 a7 a8 a9 a10) rfl)
  · exact absurd c1 (by decide)
abbrev rmX3_write : Room := { frames := 5, cells := 0, slots := 0, locals := 118 }
set_option maxRecDepth 100000 in
set_option maxHeartbeats 4000000 in
theorem m_write (l : Launch) (D : va_G) (cyI cyZ cyJ : ClassId) (h a1 a2 a3 a4 a5 a6 a7 a8 a9 a10 : Nat) (mw : Nat → Int32) (mh : Nat → Int32) (ms : Nat → Nat) (mp : Nat → Nat) (ml : Nat → Option Nat) (mb : Nat → Nat) (mm : Nat → Nat) (md : Nat → Bool) (mc : Nat → Int32) (mhi : Int32) (msw : Int32) (mmi : Int32) (mhc : Int32) (ma : Nat → Nat) (mq : Nat) (mt : Nat) (a : Nat) (y : Int32) (hb9 : md_bd 0 (mw, mh, ms, mp, ml, mb, mm, md, mc, mhi, msw, mmi, mhc, ma, mq, mt)) (hab : md_abd (mw, mh, ms, mp, ml, mb, mm, md, mc, mhi, msw, mmi, mhc, ma, mq, mt)) (ha : a < 1024) : CtI l yX3_write wsX3_write rmX3_write D (T3 cyI cyZ cyJ) [.ref h, .int (nI a), .int y] (MDc cyI h a1 a2 a3 a4 a5 a6 a7 a8 a9 a10 (mw, mh, ms, mp, ml, mb, mm, md, mc, mhi, msw, mmi, mhc, ma, mq, mt)) (mw a) (MDc cyI h a1 a2 a3 a4 a5 a6 a7 a8 a9 a10 (md_set a y (md_ask (a / 4) true (md_thr 0 (mw, mh, ms, mp, ml, mb, mm, md, mc, mhi, msw, mmi, mhc, ma, mq, mt))))) := by
  refine CtI.of (cc := cX3_write) (maxL := 4) (ret := (some .int)) (lv0 := [(0, .ref h), (1, .int (nI a)), (2, .int y)]) (by decide) rfl (Nat.le_of_ble_eq_true rfl) rfl ?_
  intro p e s m below meth c A ls args Q hx hb hml hr hlk hts hown hK hP hA hD hS hl hQ
  have hown : s.vm.findClass RX3 = some m.cls := hown
  have hi_RX3 : ∀ w ∈ wsX30, w ∈ wsX3_write := by decide +kernel
  have hf_7 := hts (.fieldLink RX3 7 "OutcastBenchModel" "written" "[I") (by decide +kernel)
  have hf_44 := hts (.fieldLink RX3 44 "OutcastBenchModel" "thrown" "I") (by decide +kernel)
  refine lv_aload_n hx hb dX3_write_0 rfl (lv_at hl 0 rfl) ?_
  refine lv_iload_n hx hb dX3_write_1 rfl (lv_at hl 1 rfl) ?_
  refine CtI.callS (n := 1) (wc := ([] : va_W)) (wr := MDc cyI h a1 a2 a3 a4 a5 a6 a7 a8 a9 a10 (mw, mh, ms, mp, ml, mb, mm, md, mc, mhi, msw, mmi, mhc, ma, mq, mt)) (w1 := ([] : va_W)) (ws' := MDc cyI h a1 a2 a3 a4 a5 a6 a7 a8 a9 a10 (mw, mh, ms, mp, ml, mb, mm, md, mc, mhi, msw, mmi, mhc, ma, mq, mt)) (isC := []) (isR := [0, 1, 2, 3, 4, 5, 6, 7, 8, 9, 10]) (ps := [0, 1, 2, 3, 4, 5, 6, 7, 8, 9, 10]) (As := [.int (nI a)]) (rest := [.ref h]) (m_isWord l D cyI cyZ cyJ a ha) ⟨hx, hb, hown, hts⟩ gX3_write_X3_isWord rfl ⟨by decide, by decide, by decide +kernel⟩ ⟨Nat.le_of_ble_eq_true rfl, Nat.le_of_ble_eq_true rfl⟩ ⟨rfl, rfl⟩ hml hl.1 hK hP hD hS hA ⟨rfl, rfl, rfl, rfl, rfl, rfl, rfl⟩ rfl rfl (Nat.le_of_ble_eq_true rfl) ⟨Nat.zero_le _, Nat.zero_le _⟩ dX3_write_2 (fun H locs hP hD hS => ?_)
  refine mq_bz (b := true) (tgt := 12) hx hb dX3_write_5 (by decide) (fun c1 => ?_) (fun c1 => ?_)
  · exact absurd c1 (by decide)
  · refine lv_iconst (v := nI 0) hx hb dX3_write_8 (by decide) ?_
    refine lv_goto (tgt := 13) hx hb dX3_write_9 (by decide) ?_
    refine mq_put (D := D) (ci := 3) (v := .int (nI 0)) (ty := .int) (C := RX3) (T := TX3) (N := 16) (ws' := MDc cyI h a1 a2 a3 a4 a5 a6 a7 a8 a9 a10 (mw, mh, ms, mp, ml, mb, mm, md, mc, mhi, msw, mmi, mhc, ma, mq, 0)) hx hb hts hi_RX3 tyX3 tyX3_ok nmX3 hown hK hP hD hS 0 rfl rfl 15 (by decide) hf_44 (fun _ h9 => h9) rfl (by decide +kernel) rfl rfl (Nat.le_of_ble_eq_true rfl) dX3_write_13 rfl (fun H locs hP hD hS => ?_)
    refine lv_aload_n hx hb dX3_write_16 rfl (lv_at hl 0 rfl) ?_
    refine va_get (D := D) (ci := 3) (v := .int (nI 0)) (C := RX3) (T := TX3) (N := 16) hx hb hts hi_RX3 hown hK hP 0 rfl rfl 15 (by decide) hf_44 (fun _ h9 => h9) rfl dX3_write_17 ?_
    refine mq_z (x := 0) (tgt := 25) (by omega) hx hb dX3_write_20 (by decide) (fun c2 => ?_) (fun c2 => ?_)
    · refine lv_aload_n hx hb dX3_write_25 rfl (lv_at hl 0 rfl) ?_
      refine lv_iload_n hx hb dX3_write_26 rfl (lv_at hl 1 rfl) ?_
      refine lv_iconst (v := nI 4) hx hb dX3_write_27 (by decide) ?_
      refine mq_idiv (x := a) (y := 4) (by omega) (by decide) (by decide) hx hb dX3_write_28 ?_
      refine lv_iconst (v := nI 1) hx hb dX3_write_29 (by decide) ?_
      obtain ⟨⟨mw1, mh1, ms1, mp1, ml1, mb1, mm1, md1, mc1, mhi1, msw1, mmi1, mhc1, ma1, mq1, mt1⟩, hv1⟩ : ∃ z : MDu, z = md_ask (a / 4) true (mw, mh, ms, mp, ml, mb, mm, md, mc, mhi, msw, mmi, mhc, ma, mq, 0) := ⟨_, rfl⟩
      have hT := m_ask l D cyI cyZ cyJ h a1 a2 a3 a4 a5 a6 a7 a8 a9 a10 mw mh ms mp ml mb mm md mc mhi msw mmi mhc ma mq 0 (a / 4) true (md_bd_thr 0 hb9) (md_abd_thr 0 hab) (by omega)
      rw [← hv1] at hT
      have hw1 : mw1 = mw := by have h9 := (md_ask_mw (a / 4) true (mw, mh, ms, mp, ml, mb, mm, md, mc, mhi, msw, mmi, mhc, ma, mq, 0)).1; rw [← hv1] at h9; exact h9
      refine CtV.callV (n := 2) (q0 := 0) (ci := 3) (wc := MDc cyI h a1 a2 a3 a4 a5 a6 a7 a8 a9 a10 (mw, mh, ms, mp, ml, mb, mm, md, mc, mhi, msw, mmi, mhc, ma, mq, 0)) (wr := ([] : va_W)) (w1 := MDc cyI h a1 a2 a3 a4 a5 a6 a7 a8 a9 a10 (mw1, mh1, ms1, mp1, ml1, mb1, mm1, md1, mc1, mhi1, msw1, mmi1, mhc1, ma1, mq1, mt1)) (ws' := MDc cyI h a1 a2 a3 a4 a5 a6 a7 a8 a9 a10 (mw1, mh1, ms1, mp1, ml1, mb1, mm1, md1, mc1, mhi1, msw1, mmi1, mhc1, ma1, mq1, mt1)) (isC := [0, 1, 2, 3, 4, 5, 6, 7, 8, 9, 10]) (isR := []) (ps := [0, 1, 2, 3, 4, 5, 6, 7, 8, 9, 10]) (As := [.int (nI (a / 4)), .int (bI true)]) (rest := []) (hT) ⟨hx, hb, hown, hts⟩ gX3_write_X3_asks rfl ⟨rfl, by decide, by decide, by decide +kernel⟩ ⟨Nat.le_of_ble_eq_true rfl, Nat.le_of_ble_eq_true rfl⟩ ⟨rfl, rfl⟩ hml hl.1 hK hP hD hS hA ⟨rfl, rfl, rfl, rfl, rfl, rfl, rfl⟩ rfl ⟨rfl, rfl⟩ rfl rfl (Nat.le_of_ble_eq_true rfl) ⟨Nat.zero_le _, Nat.zero_le _⟩ dX3_write_30 (fun H locs hP hD hS => ?_)
      refine lv_aload_n hx hb dX3_write_33 rfl (lv_at hl 0 rfl) ?_
      refine va_get (D := D) (ci := 3) (v := .ref a1) (C := RX3) (T := TX3) (N := 16) hx hb hts hi_RX3 hown hK hP 0 rfl rfl 0 (by decide) hf_7 (fun _ h9 => h9) rfl dX3_write_34 ?_
      refine lv_iload_n hx hb dX3_write_37 rfl (lv_at hl 1 rfl) ?_
      refine mq_ldR (k := a) mw1 hx hb hK hP 1 0 rfl rfl (by omega) (Nat.le_of_ble_eq_true rfl) dX3_write_38 ?_
      refine lv_istore_n (lv' := [(3, .int (mw1 a)), (0, .ref h), (1, .int (nI a)), (2, .int y)]) hx hb dX3_write_39 rfl hl (by decide) rfl (fun ls hl => ?_)
      refine lv_aload_n hx hb dX3_write_40 rfl (lv_at hl 1 rfl) ?_
      refine va_get (D := D) (ci := 3) (v := .ref a1) (C := RX3) (T := TX3) (N := 16) hx hb hts hi_RX3 hown hK hP 0 rfl rfl 0 (by decide) hf_7 (fun _ h9 => h9) rfl dX3_write_41 ?_
      refine lv_iload_n hx hb dX3_write_44 rfl (lv_at hl 2 rfl) ?_
      refine lv_iload_n hx hb dX3_write_45 rfl (lv_at hl 3 rfl) ?_
      refine mq_stR (k := a) mw1 y (ws' := MDc cyI h a1 a2 a3 a4 a5 a6 a7 a8 a9 a10 (ru mw1 a y, mh1, ms1, mp1, ml1, mb1, mm1, md1, mc1, mhi1, msw1, mmi1, mhc1, ma1, mq1, mt1)) hx hb hK hP hD hS 1 0 rfl rfl (by omega) (Nat.le_of_ble_eq_true rfl) dX3_write_46 rfl (fun H locs hP hD hS => ?_)
      refine lv_iload_n hx hb dX3_write_47 rfl (lv_at hl 0 rfl) ?_
      exact CtI.ret hQ hx hb hr hlk hK hP hD hS dX3_write_48 (by rw [hw1]) (congrArg (MDc cyI h a1 a2 a3 a4 a5 a6 a7 a8 a9 a10) (congrArg (md_set a y) hv1))
    · exact absurd c2 (by decide)
set_option maxRecDepth 100000 in
set_option maxHeartbeats 4000000 in
theorem m_writeN (l : Launch) (D : va_G) (cyI cyZ cyJ : ClassId) (h a1 a2 a3 a4 a5 a6 a7 a8 a9 a10 : Nat) (mw : Nat → Int32) (mh : Nat → Int32) (ms : Nat → Nat) (mp : Nat → Nat) (ml : Nat → Option Nat) (mb : Nat → Nat) (mm : Nat → Nat) (md : Nat → Bool) (mc : Nat → Int32) (mhi : Int32) (msw : Int32) (mmi : Int32) (mhc : Int32) (ma : Nat → Nat) (mq : Nat) (mt : Nat) (x y : Int32) (hbad : x < 0 ∨ nI 1024 ≤ x) : CtI l yX3_write wsX3_write rmX3_write D (T3 cyI cyZ cyJ) [.ref h, .int x, .int y] (MDc cyI h a1 a2 a3 a4 a5 a6 a7 a8 a9 a10 (mw, mh, ms, mp, ml, mb, mm, md, mc, mhi, msw, mmi, mhc, ma, mq, mt)) (nI 0) (MDc cyI h a1 a2 a3 a4 a5 a6 a7 a8 a9 a10 (md_thr 1 (mw, mh, ms, mp, ml, mb, mm, md, mc, mhi, msw, mmi, mhc, ma, mq, mt))) := by
  refine CtI.of (cc := cX3_write) (maxL := 4) (ret := (some .int)) (lv0 := [(0, .ref h), (1, .int x), (2, .int y)]) (by decide) rfl (Nat.le_of_ble_eq_true rfl) rfl ?_
  intro p e s m below meth c A ls args Q hx hb hml hr hlk hts hown hK hP hA hD hS hl hQ
  have hown : s.vm.findClass RX3 = some m.cls := hown
  have hi_RX3 : ∀ w ∈ wsX30, w ∈ wsX3_write := by decide +kernel
  have hf_44 := hts (.fieldLink RX3 44 "OutcastBenchModel" "thrown" "I") (by decide +kernel)
  refine lv_aload_n hx hb dX3_write_0 rfl (lv_at hl 0 rfl) ?_
  refine lv_iload_n hx hb dX3_write_1 rfl (lv_at hl 1 rfl) ?_
  refine CtI.callS (n := 1) (wc := ([] : va_W)) (wr := MDc cyI h a1 a2 a3 a4 a5 a6 a7 a8 a9 a10 (mw, mh, ms, mp, ml, mb, mm, md, mc, mhi, msw, mmi, mhc, ma, mq, mt)) (w1 := ([] : va_W)) (ws' := MDc cyI h a1 a2 a3 a4 a5 a6 a7 a8 a9 a10 (mw, mh, ms, mp, ml, mb, mm, md, mc, mhi, msw, mmi, mhc, ma, mq, mt)) (isC := []) (isR := [0, 1, 2, 3, 4, 5, 6, 7, 8, 9, 10]) (ps := [0, 1, 2, 3, 4, 5, 6, 7, 8, 9, 10]) (As := [.int x]) (rest := [.ref h]) (m_isWordN l D cyI cyZ cyJ x hbad) ⟨hx, hb, hown, hts⟩ gX3_write_X3_isWord rfl ⟨by decide, by decide, by decide +kernel⟩ ⟨Nat.le_of_ble_eq_true rfl, Nat.le_of_ble_eq_true rfl⟩ ⟨rfl, rfl⟩ hml hl.1 hK hP hD hS hA ⟨rfl, rfl, rfl, rfl, rfl, rfl, rfl⟩ rfl rfl (Nat.le_of_ble_eq_true rfl) ⟨Nat.zero_le _, Nat.zero_le _⟩ dX3_write_2 (fun H locs hP hD hS => ?_)
  refine mq_bz (b := false) (tgt := 12) hx hb dX3_write_5 (by decide) (fun c1 => ?_) (fun c1 => ?_)
  · refine lv_iconst (v := nI 1) hx hb dX3_write_12 (by decide) ?_
    refine mq_put (D := D) (ci := 3) (v := .int (nI 1)) (ty := .int) (C := RX3) (T := TX3) (N := 16) (ws' := MDc cyI h a1 a2 a3 a4 a5 a6 a7 a8 a9 a10 (mw, mh, ms, mp, ml, mb, mm, md, mc, mhi, msw, mmi, mhc, ma, mq, 1)) hx hb hts hi_RX3 tyX3 tyX3_ok nmX3 hown hK hP hD hS 0 rfl rfl 15 (by decide) hf_44 (fun _ h9 => h9) rfl (by decide +kernel) rfl rfl (Nat.le_of_ble_eq_true rfl) dX3_write_13 rfl (fun H locs hP hD hS => ?_)
    refine lv_aload_n hx hb dX3_write_16 rfl (lv_at hl 0 rfl) ?_
    refine va_get (D := D) (ci := 3) (v := .int (nI 1)) (C := RX3) (T := TX3) (N := 16) hx hb hts hi_RX3 hown hK hP 0 rfl rfl 15 (by decide) hf_44 (fun _ h9 => h9) rfl dX3_write_17 ?_
    refine mq_z (x := 1) (tgt := 25) (by omega) hx hb dX3_write_20 (by decide) (fun c2 => ?_) (fun c2 => ?_)
    · exact absurd c2 (by decide)
    · refine lv_iconst (v := nI 0) hx hb dX3_write_23 (by decide) ?_
      exact CtI.ret hQ hx hb hr hlk hK hP hD hS dX3_write_24 rfl (congrArg (MDc cyI h a1 a2 a3 a4 a5 a6 a7 a8 a9 a10) rfl)
  · exact absurd c1 (by decide)
abbrev rmX3_walk : Room := { frames := 5, cells := 0, slots := 0, locals := 118 }
set_option maxRecDepth 100000 in
set_option maxHeartbeats 4000000 in
theorem m_walk (l : Launch) (D : va_G) (cyI cyZ cyJ : ClassId) (h a1 a2 a3 a4 a5 a6 a7 a8 a9 a10 : Nat) (mw : Nat → Int32) (mh : Nat → Int32) (ms : Nat → Nat) (mp : Nat → Nat) (ml : Nat → Option Nat) (mb : Nat → Nat) (mm : Nat → Nat) (md : Nat → Bool) (mc : Nat → Int32) (mhi : Int32) (msw : Int32) (mmi : Int32) (mhc : Int32) (ma : Nat → Nat) (mq : Nat) (mt : Nat) (a : Nat) (z : Int) (k : Nat) (hb9 : md_bd 0 (mw, mh, ms, mp, ml, mb, mm, md, mc, mhi, msw, mmi, mhc, ma, mq, mt)) (hab : md_abd (mw, mh, ms, mp, ml, mb, mm, md, mc, mhi, msw, mmi, mhc, ma, mq, mt)) (ha : a < 1024) (hz1 : -64 ≤ z) (hz2 : z ≤ 64) (hk1 : 1 ≤ k) (hk2 : k ≤ 100) : CtI l yX3_walk wsX3_walk rmX3_walk D (T3 cyI cyZ cyJ) [.ref h, .int (nI a), .int (Int32.ofInt z), .int (nI k)] (MDc cyI h a1 a2 a3 a4 a5 a6 a7 a8 a9 a10 (mw, mh, ms, mp, ml, mb, mm, md, mc, mhi, msw, mmi, mhc, ma, mq, mt)) (md_co (md_steps a z k (md_thr 0 (mw, mh, ms, mp, ml, mb, mm, md, mc, mhi, msw, mmi, mhc, ma, mq, mt))) 0 - mc 0) (MDc cyI h a1 a2 a3 a4 a5 a6 a7 a8 a9 a10 (md_steps a z k (md_thr 0 (mw, mh, ms, mp, ml, mb, mm, md, mc, mhi, msw, mmi, mhc, ma, mq, mt)))) := by
  refine CtI.of (cc := cX3_walk) (maxL := 7) (ret := (some .int)) (lv0 := [(0, .ref h), (1, .int (nI a)), (2, .int (Int32.ofInt z)), (3, .int (nI k))]) (by decide) rfl (Nat.le_of_ble_eq_true rfl) rfl ?_
  intro p e s m below meth c A ls args Q hx hb hml hr hlk hts hown hK hP hA hD hS hl hQ
  have hown : s.vm.findClass RX3 = some m.cls := hown
  have hi_RX3 : ∀ w ∈ wsX30, w ∈ wsX3_walk := by decide +kernel
  have hf_34 := hts (.fieldLink RX3 34 "OutcastBenchModel" "cost" "[I") (by decide +kernel)
  have hf_44 := hts (.fieldLink RX3 44 "OutcastBenchModel" "thrown" "I") (by decide +kernel)
  refine lv_aload_n hx hb dX3_walk_0 rfl (lv_at hl 0 rfl) ?_
  refine lv_iload_n hx hb dX3_walk_1 rfl (lv_at hl 1 rfl) ?_
  refine CtI.callS (n := 1) (wc := ([] : va_W)) (wr := MDc cyI h a1 a2 a3 a4 a5 a6 a7 a8 a9 a10 (mw, mh, ms, mp, ml, mb, mm, md, mc, mhi, msw, mmi, mhc, ma, mq, mt)) (w1 := ([] : va_W)) (ws' := MDc cyI h a1 a2 a3 a4 a5 a6 a7 a8 a9 a10 (mw, mh, ms, mp, ml, mb, mm, md, mc, mhi, msw, mmi, mhc, ma, mq, mt)) (isC := []) (isR := [0, 1, 2, 3, 4, 5, 6, 7, 8, 9, 10]) (ps := [0, 1, 2, 3, 4, 5, 6, 7, 8, 9, 10]) (As := [.int (nI a)]) (rest := [.ref h]) (m_isWord l D cyI cyZ cyJ a ha) ⟨hx, hb, hown, hts⟩ gX3_walk_X3_isWord rfl ⟨by decide, by decide, by decide +kernel⟩ ⟨Nat.le_of_ble_eq_true rfl, Nat.le_of_ble_eq_true rfl⟩ ⟨rfl, rfl⟩ hml hl.1 hK hP hD hS hA ⟨rfl, rfl, rfl, rfl, rfl, rfl, rfl⟩ rfl rfl (Nat.le_of_ble_eq_true rfl) ⟨Nat.zero_le _, Nat.zero_le _⟩ dX3_walk_2 (fun H locs hP hD hS => ?_)
  refine mq_bnz (b := true) (tgt := 12) hx hb dX3_walk_5 (by decide) (fun c1 => ?_) (fun c1 => ?_)
  · refine lv_iload_n hx hb dX3_walk_12 rfl (lv_at hl 2 rfl) ?_
    refine lv_bipush (v := -64) hx hb dX3_walk_13 (by decide) ?_
    refine lv_icmp_lt (x := Int32.ofInt z) (y := -64) (tgt := 35) hx hb dX3_walk_15 (by decide) (fun c1 => ?_) (fun c1 => ?_)
    · exact absurd c1 (ofInt_ge hz1 hz2)
    · refine lv_iload_n hx hb dX3_walk_18 rfl (lv_at hl 2 rfl) ?_
      refine lv_bipush (v := nI 64) hx hb dX3_walk_19 (by decide) ?_
      refine lv_icmp_gt (x := Int32.ofInt z) (y := 64) (tgt := 35) hx hb dX3_walk_21 (by decide) (fun c2 => ?_) (fun c2 => ?_)
      · exact absurd c2 (ofInt_le hz1 hz2)
      · refine lv_iload_n hx hb dX3_walk_24 rfl (lv_at hl 3 rfl) ?_
        refine lv_iconst (v := nI 1) hx hb dX3_walk_25 (by decide) ?_
        refine mq_lt (x := k) (y := 1) (tgt := 35) (by omega) (by omega) hx hb dX3_walk_26 (by decide) (fun c3 => ?_) (fun c3 => ?_)
        · exact absurd c3 (by omega)
        · refine lv_iload_n hx hb dX3_walk_29 rfl (lv_at hl 3 rfl) ?_
          refine lv_bipush (v := nI 100) hx hb dX3_walk_30 (by decide) ?_
          refine lv_icmp_le (x := nI k) (y := 100) (tgt := 39) hx hb dX3_walk_32 (by decide) (fun c4 => ?_) (fun c4 => ?_)
          · refine lv_iconst (v := nI 0) hx hb dX3_walk_39 (by decide) ?_
            refine mq_put (D := D) (ci := 3) (v := .int (nI 0)) (ty := .int) (C := RX3) (T := TX3) (N := 16) (ws' := MDc cyI h a1 a2 a3 a4 a5 a6 a7 a8 a9 a10 (mw, mh, ms, mp, ml, mb, mm, md, mc, mhi, msw, mmi, mhc, ma, mq, 0)) hx hb hts hi_RX3 tyX3 tyX3_ok nmX3 hown hK hP hD hS 0 rfl rfl 15 (by decide) hf_44 (fun _ h9 => h9) rfl (by decide +kernel) rfl rfl (Nat.le_of_ble_eq_true rfl) dX3_walk_40 rfl (fun H locs hP hD hS => ?_)
            refine lv_aload_n hx hb dX3_walk_43 rfl (lv_at hl 0 rfl) ?_
            refine va_get (D := D) (ci := 3) (v := .ref a9) (C := RX3) (T := TX3) (N := 16) hx hb hts hi_RX3 hown hK hP 0 rfl rfl 8 (by decide) hf_34 (fun _ h9 => h9) rfl dX3_walk_44 ?_
            refine lv_iconst (v := nI 0) hx hb dX3_walk_47 (by decide) ?_
            refine mq_ldR (k := 0) mc hx hb hK hP 9 0 rfl rfl (by omega) (Nat.le_of_ble_eq_true rfl) dX3_walk_48 ?_
            refine lv_istore (lv' := [(4, .int (mc 0)), (0, .ref h), (1, .int (nI a)), (2, .int (Int32.ofInt z)), (3, .int (nI k))]) hx hb dX3_walk_49 hl (by decide) rfl (fun ls hl => ?_)
            refine lv_iload_n hx hb dX3_walk_51 rfl (lv_at hl 2 rfl) ?_
            refine lv_istore (lv' := [(5, .int (nI a)), (4, .int (mc 0)), (0, .ref h), (1, .int (nI a)), (2, .int (Int32.ofInt z)), (3, .int (nI k))]) hx hb dX3_walk_52 hl (by decide) rfl (fun ls hl => ?_)
            refine lv_iconst (v := nI 0) hx hb dX3_walk_54 (by decide) ?_
            refine lv_istore (lv' := [(6, .int (nI 0)), (5, .int (nI a)), (4, .int (mc 0)), (0, .ref h), (1, .int (nI a)), (2, .int (Int32.ofInt z)), (3, .int (nI k))]) hx hb dX3_walk_55 hl (by decide) rfl (fun ls hl => ?_)
            have LP57 : ∀ (fu : Nat) (j : Nat) (H : Heap) (locs : List Loc) (ls : Array Slot), (j ≤ k) → k - j < fu → va_P D vwCl (MDc cyI h a1 a2 a3 a4 a5 a6 a7 a8 a9 a10 ((md_steps a z j (md_thr 0 (mw, mh, ms, mp, ml, mb, mm, md, mc, mhi, msw, mmi, mhc, ma, mq, mt))).1, (md_steps a z j (md_thr 0 (mw, mh, ms, mp, ml, mb, mm, md, mc, mhi, msw, mmi, mhc, ma, mq, mt))).2.1, (md_steps a z j (md_thr 0 (mw, mh, ms, mp, ml, mb, mm, md, mc, mhi, msw, mmi, mhc, ma, mq, mt))).2.2.1, (md_steps a z j (md_thr 0 (mw, mh, ms, mp, ml, mb, mm, md, mc, mhi, msw, mmi, mhc, ma, mq, mt))).2.2.2.1, (md_steps a z j (md_thr 0 (mw, mh, ms, mp, ml, mb, mm, md, mc, mhi, msw, mmi, mhc, ma, mq, mt))).2.2.2.2.1, (md_steps a z j (md_thr 0 (mw, mh, ms, mp, ml, mb, mm, md, mc, mhi, msw, mmi, mhc, ma, mq, mt))).2.2.2.2.2.1, (md_steps a z j (md_thr 0 (mw, mh, ms, mp, ml, mb, mm, md, mc, mhi, msw, mmi, mhc, ma, mq, mt))).2.2.2.2.2.2.1, (md_steps a z j (md_thr 0 (mw, mh, ms, mp, ml, mb, mm, md, mc, mhi, msw, mmi, mhc, ma, mq, mt))).2.2.2.2.2.2.2.1, (md_steps a z j (md_thr 0 (mw, mh, ms, mp, ml, mb, mm, md, mc, mhi, msw, mmi, mhc, ma, mq, mt))).2.2.2.2.2.2.2.2.1, (md_steps a z j (md_thr 0 (mw, mh, ms, mp, ml, mb, mm, md, mc, mhi, msw, mmi, mhc, ma, mq, mt))).2.2.2.2.2.2.2.2.2.1, (md_steps a z j (md_thr 0 (mw, mh, ms, mp, ml, mb, mm, md, mc, mhi, msw, mmi, mhc, ma, mq, mt))).2.2.2.2.2.2.2.2.2.2.1, (md_steps a z j (md_thr 0 (mw, mh, ms, mp, ml, mb, mm, md, mc, mhi, msw, mmi, mhc, ma, mq, mt))).2.2.2.2.2.2.2.2.2.2.2.1, (md_steps a z j (md_thr 0 (mw, mh, ms, mp, ml, mb, mm, md, mc, mhi, msw, mmi, mhc, ma, mq, mt))).2.2.2.2.2.2.2.2.2.2.2.2.1, (md_steps a z j (md_thr 0 (mw, mh, ms, mp, ml, mb, mm, md, mc, mhi, msw, mmi, mhc, ma, mq, mt))).2.2.2.2.2.2.2.2.2.2.2.2.2.1, (md_steps a z j (md_thr 0 (mw, mh, ms, mp, ml, mb, mm, md, mc, mhi, msw, mmi, mhc, ma, mq, mt))).2.2.2.2.2.2.2.2.2.2.2.2.2.2.1, (md_steps a z j (md_thr 0 (mw, mh, ms, mp, ml, mb, mm, md, mc, mhi, msw, mmi, mhc, ma, mq, mt))).2.2.2.2.2.2.2.2.2.2.2.2.2.2.2)) H → va_D A (MDc cyI h a1 a2 a3 a4 a5 a6 a7 a8 a9 a10 ((md_steps a z j (md_thr 0 (mw, mh, ms, mp, ml, mb, mm, md, mc, mhi, msw, mmi, mhc, ma, mq, mt))).1, (md_steps a z j (md_thr 0 (mw, mh, ms, mp, ml, mb, mm, md, mc, mhi, msw, mmi, mhc, ma, mq, mt))).2.1, (md_steps a z j (md_thr 0 (mw, mh, ms, mp, ml, mb, mm, md, mc, mhi, msw, mmi, mhc, ma, mq, mt))).2.2.1, (md_steps a z j (md_thr 0 (mw, mh, ms, mp, ml, mb, mm, md, mc, mhi, msw, mmi, mhc, ma, mq, mt))).2.2.2.1, (md_steps a z j (md_thr 0 (mw, mh, ms, mp, ml, mb, mm, md, mc, mhi, msw, mmi, mhc, ma, mq, mt))).2.2.2.2.1, (md_steps a z j (md_thr 0 (mw, mh, ms, mp, ml, mb, mm, md, mc, mhi, msw, mmi, mhc, ma, mq, mt))).2.2.2.2.2.1, (md_steps a z j (md_thr 0 (mw, mh, ms, mp, ml, mb, mm, md, mc, mhi, msw, mmi, mhc, ma, mq, mt))).2.2.2.2.2.2.1, (md_steps a z j (md_thr 0 (mw, mh, ms, mp, ml, mb, mm, md, mc, mhi, msw, mmi, mhc, ma, mq, mt))).2.2.2.2.2.2.2.1, (md_steps a z j (md_thr 0 (mw, mh, ms, mp, ml, mb, mm, md, mc, mhi, msw, mmi, mhc, ma, mq, mt))).2.2.2.2.2.2.2.2.1, (md_steps a z j (md_thr 0 (mw, mh, ms, mp, ml, mb, mm, md, mc, mhi, msw, mmi, mhc, ma, mq, mt))).2.2.2.2.2.2.2.2.2.1, (md_steps a z j (md_thr 0 (mw, mh, ms, mp, ml, mb, mm, md, mc, mhi, msw, mmi, mhc, ma, mq, mt))).2.2.2.2.2.2.2.2.2.2.1, (md_steps a z j (md_thr 0 (mw, mh, ms, mp, ml, mb, mm, md, mc, mhi, msw, mmi, mhc, ma, mq, mt))).2.2.2.2.2.2.2.2.2.2.2.1, (md_steps a z j (md_thr 0 (mw, mh, ms, mp, ml, mb, mm, md, mc, mhi, msw, mmi, mhc, ma, mq, mt))).2.2.2.2.2.2.2.2.2.2.2.2.1, (md_steps a z j (md_thr 0 (mw, mh, ms, mp, ml, mb, mm, md, mc, mhi, msw, mmi, mhc, ma, mq, mt))).2.2.2.2.2.2.2.2.2.2.2.2.2.1, (md_steps a z j (md_thr 0 (mw, mh, ms, mp, ml, mb, mm, md, mc, mhi, msw, mmi, mhc, ma, mq, mt))).2.2.2.2.2.2.2.2.2.2.2.2.2.2.1, (md_steps a z j (md_thr 0 (mw, mh, ms, mp, ml, mb, mm, md, mc, mhi, msw, mmi, mhc, ma, mq, mt))).2.2.2.2.2.2.2.2.2.2.2.2.2.2.2)) → va_S A s.heap H locs → lv_has ls 7 [(0, .ref h), (1, .int (nI a)), (2, .int (Int32.ofInt z)), (3, .int (nI k)), (4, .int (mc 0)), (5, .int (nI (adr a z j))), (6, .int (nI j))] → W p l e rmX3_walk s m args below meth c H locs 0 0 Q (F0 m 57 ls []) := by
              intro fu
              induction fu with
              | zero =>
                intro j H locs ls hjk hfu
                exact absurd hfu (Nat.not_lt_zero _)
              | succ fu ih =>
                intro j H locs ls hjk hfu hP hD hS hl
                refine lv_iload hx hb dX3_walk_57 (lv_at hl 6 rfl) ?_
                refine lv_iload_n hx hb dX3_walk_59 rfl (lv_at hl 3 rfl) ?_
                refine mq_ge (x := j) (y := k) (tgt := 99) (by omega) (by omega) hx hb dX3_walk_60 (by decide) (fun c5 => ?_) (fun c5 => ?_)
                · have e : j = k := by omega
                  subst e
                  refine lv_aload_n hx hb dX3_walk_99 rfl (lv_at hl 0 rfl) ?_
                  refine va_get (D := D) (ci := 3) (v := .ref a9) (C := RX3) (T := TX3) (N := 16) hx hb hts hi_RX3 hown hK hP 0 rfl rfl 8 (by decide) hf_34 (fun _ h9 => h9) rfl dX3_walk_100 ?_
                  refine lv_iconst (v := nI 0) hx hb dX3_walk_103 (by decide) ?_
                  refine mq_ldR (k := 0) ((md_steps a z j (md_thr 0 (mw, mh, ms, mp, ml, mb, mm, md, mc, mhi, msw, mmi, mhc, ma, mq, mt))).2.2.2.2.2.2.2.2.1) hx hb hK hP 9 0 rfl rfl (by omega) (Nat.le_of_ble_eq_true rfl) dX3_walk_104 ?_
                  refine lv_iload hx hb dX3_walk_105 (lv_at hl 4 rfl) ?_
                  refine lv_isub (x := ((md_steps a z j (md_thr 0 (mw, mh, ms, mp, ml, mb, mm, md, mc, mhi, msw, mmi, mhc, ma, mq, mt))).2.2.2.2.2.2.2.2.1) 0) (y := mc 0) hx hb dX3_walk_107 ?_
                  exact CtI.ret hQ hx hb hr hlk hK hP hD hS dX3_walk_108 rfl rfl
                · refine lv_aload_n hx hb dX3_walk_63 rfl (lv_at hl 0 rfl) ?_
                  refine va_get (D := D) (ci := 3) (v := .int (nI ((md_steps a z j (md_thr 0 (mw, mh, ms, mp, ml, mb, mm, md, mc, mhi, msw, mmi, mhc, ma, mq, mt))).2.2.2.2.2.2.2.2.2.2.2.2.2.2.2))) (C := RX3) (T := TX3) (N := 16) hx hb hts hi_RX3 hown hK hP 0 rfl rfl 15 (by decide) hf_44 (fun _ h9 => h9) rfl dX3_walk_64 ?_
                  rw [show nI ((md_steps a z j (md_thr 0 (mw, mh, ms, mp, ml, mb, mm, md, mc, mhi, msw, mmi, mhc, ma, mq, mt))).2.2.2.2.2.2.2.2.2.2.2.2.2.2.2) = nI 0 from (congrArg nI (md_steps_mt (a := a) (z := z) (x := (md_thr 0 (mw, mh, ms, mp, ml, mb, mm, md, mc, mhi, msw, mmi, mhc, ma, mq, mt))) j))]
                  refine mq_nz (x := 0) (tgt := 99) (by omega) hx hb dX3_walk_67 (by decide) (fun c2 => ?_) (fun c2 => ?_)
                  · exact absurd c2 (by decide)
                  · obtain ⟨hsb, hsa⟩ := md_steps_bd (z := z) (x := (md_thr 0 (mw, mh, ms, mp, ml, mb, mm, md, mc, mhi, msw, mmi, mhc, ma, mq, mt))) ha (md_bd_thr 0 hb9) (md_abd_thr 0 hab) j
                    have haj := adr_lt z ha j
                    refine lv_aload_n hx hb dX3_walk_70 rfl (lv_at hl 0 rfl) ?_
                    refine lv_iload hx hb dX3_walk_71 (lv_at hl 5 rfl) ?_
                    refine lv_iconst (v := nI 4) hx hb dX3_walk_73 (by decide) ?_
                    refine mq_idiv (x := (adr a z j)) (y := 4) (by omega) (by decide) (by decide) hx hb dX3_walk_74 ?_
                    refine lv_iconst (v := nI 0) hx hb dX3_walk_75 (by decide) ?_
                    refine CtV.callV (n := 2) (q0 := 0) (ci := 3) (wc := MDc cyI h a1 a2 a3 a4 a5 a6 a7 a8 a9 a10 ((md_steps a z j (md_thr 0 (mw, mh, ms, mp, ml, mb, mm, md, mc, mhi, msw, mmi, mhc, ma, mq, mt))).1, (md_steps a z j (md_thr 0 (mw, mh, ms, mp, ml, mb, mm, md, mc, mhi, msw, mmi, mhc, ma, mq, mt))).2.1, (md_steps a z j (md_thr 0 (mw, mh, ms, mp, ml, mb, mm, md, mc, mhi, msw, mmi, mhc, ma, mq, mt))).2.2.1, (md_steps a z j (md_thr 0 (mw, mh, ms, mp, ml, mb, mm, md, mc, mhi, msw, mmi, mhc, ma, mq, mt))).2.2.2.1, (md_steps a z j (md_thr 0 (mw, mh, ms, mp, ml, mb, mm, md, mc, mhi, msw, mmi, mhc, ma, mq, mt))).2.2.2.2.1, (md_steps a z j (md_thr 0 (mw, mh, ms, mp, ml, mb, mm, md, mc, mhi, msw, mmi, mhc, ma, mq, mt))).2.2.2.2.2.1, (md_steps a z j (md_thr 0 (mw, mh, ms, mp, ml, mb, mm, md, mc, mhi, msw, mmi, mhc, ma, mq, mt))).2.2.2.2.2.2.1, (md_steps a z j (md_thr 0 (mw, mh, ms, mp, ml, mb, mm, md, mc, mhi, msw, mmi, mhc, ma, mq, mt))).2.2.2.2.2.2.2.1, (md_steps a z j (md_thr 0 (mw, mh, ms, mp, ml, mb, mm, md, mc, mhi, msw, mmi, mhc, ma, mq, mt))).2.2.2.2.2.2.2.2.1, (md_steps a z j (md_thr 0 (mw, mh, ms, mp, ml, mb, mm, md, mc, mhi, msw, mmi, mhc, ma, mq, mt))).2.2.2.2.2.2.2.2.2.1, (md_steps a z j (md_thr 0 (mw, mh, ms, mp, ml, mb, mm, md, mc, mhi, msw, mmi, mhc, ma, mq, mt))).2.2.2.2.2.2.2.2.2.2.1, (md_steps a z j (md_thr 0 (mw, mh, ms, mp, ml, mb, mm, md, mc, mhi, msw, mmi, mhc, ma, mq, mt))).2.2.2.2.2.2.2.2.2.2.2.1, (md_steps a z j (md_thr 0 (mw, mh, ms, mp, ml, mb, mm, md, mc, mhi, msw, mmi, mhc, ma, mq, mt))).2.2.2.2.2.2.2.2.2.2.2.2.1, (md_steps a z j (md_thr 0 (mw, mh, ms, mp, ml, mb, mm, md, mc, mhi, msw, mmi, mhc, ma, mq, mt))).2.2.2.2.2.2.2.2.2.2.2.2.2.1, (md_steps a z j (md_thr 0 (mw, mh, ms, mp, ml, mb, mm, md, mc, mhi, msw, mmi, mhc, ma, mq, mt))).2.2.2.2.2.2.2.2.2.2.2.2.2.2.1, (md_steps a z j (md_thr 0 (mw, mh, ms, mp, ml, mb, mm, md, mc, mhi, msw, mmi, mhc, ma, mq, mt))).2.2.2.2.2.2.2.2.2.2.2.2.2.2.2)) (wr := ([] : va_W)) (w1 := MDc cyI h a1 a2 a3 a4 a5 a6 a7 a8 a9 a10 ((md_ask (adr a z j / 4) false (md_steps a z j (md_thr 0 (mw, mh, ms, mp, ml, mb, mm, md, mc, mhi, msw, mmi, mhc, ma, mq, mt)))).1, (md_ask (adr a z j / 4) false (md_steps a z j (md_thr 0 (mw, mh, ms, mp, ml, mb, mm, md, mc, mhi, msw, mmi, mhc, ma, mq, mt)))).2.1, (md_ask (adr a z j / 4) false (md_steps a z j (md_thr 0 (mw, mh, ms, mp, ml, mb, mm, md, mc, mhi, msw, mmi, mhc, ma, mq, mt)))).2.2.1, (md_ask (adr a z j / 4) false (md_steps a z j (md_thr 0 (mw, mh, ms, mp, ml, mb, mm, md, mc, mhi, msw, mmi, mhc, ma, mq, mt)))).2.2.2.1, (md_ask (adr a z j / 4) false (md_steps a z j (md_thr 0 (mw, mh, ms, mp, ml, mb, mm, md, mc, mhi, msw, mmi, mhc, ma, mq, mt)))).2.2.2.2.1, (md_ask (adr a z j / 4) false (md_steps a z j (md_thr 0 (mw, mh, ms, mp, ml, mb, mm, md, mc, mhi, msw, mmi, mhc, ma, mq, mt)))).2.2.2.2.2.1, (md_ask (adr a z j / 4) false (md_steps a z j (md_thr 0 (mw, mh, ms, mp, ml, mb, mm, md, mc, mhi, msw, mmi, mhc, ma, mq, mt)))).2.2.2.2.2.2.1, (md_ask (adr a z j / 4) false (md_steps a z j (md_thr 0 (mw, mh, ms, mp, ml, mb, mm, md, mc, mhi, msw, mmi, mhc, ma, mq, mt)))).2.2.2.2.2.2.2.1, (md_ask (adr a z j / 4) false (md_steps a z j (md_thr 0 (mw, mh, ms, mp, ml, mb, mm, md, mc, mhi, msw, mmi, mhc, ma, mq, mt)))).2.2.2.2.2.2.2.2.1, (md_ask (adr a z j / 4) false (md_steps a z j (md_thr 0 (mw, mh, ms, mp, ml, mb, mm, md, mc, mhi, msw, mmi, mhc, ma, mq, mt)))).2.2.2.2.2.2.2.2.2.1, (md_ask (adr a z j / 4) false (md_steps a z j (md_thr 0 (mw, mh, ms, mp, ml, mb, mm, md, mc, mhi, msw, mmi, mhc, ma, mq, mt)))).2.2.2.2.2.2.2.2.2.2.1, (md_ask (adr a z j / 4) false (md_steps a z j (md_thr 0 (mw, mh, ms, mp, ml, mb, mm, md, mc, mhi, msw, mmi, mhc, ma, mq, mt)))).2.2.2.2.2.2.2.2.2.2.2.1, (md_ask (adr a z j / 4) false (md_steps a z j (md_thr 0 (mw, mh, ms, mp, ml, mb, mm, md, mc, mhi, msw, mmi, mhc, ma, mq, mt)))).2.2.2.2.2.2.2.2.2.2.2.2.1, (md_ask (adr a z j / 4) false (md_steps a z j (md_thr 0 (mw, mh, ms, mp, ml, mb, mm, md, mc, mhi, msw, mmi, mhc, ma, mq, mt)))).2.2.2.2.2.2.2.2.2.2.2.2.2.1, (md_ask (adr a z j / 4) false (md_steps a z j (md_thr 0 (mw, mh, ms, mp, ml, mb, mm, md, mc, mhi, msw, mmi, mhc, ma, mq, mt)))).2.2.2.2.2.2.2.2.2.2.2.2.2.2.1, (md_ask (adr a z j / 4) false (md_steps a z j (md_thr 0 (mw, mh, ms, mp, ml, mb, mm, md, mc, mhi, msw, mmi, mhc, ma, mq, mt)))).2.2.2.2.2.2.2.2.2.2.2.2.2.2.2)) (ws' := MDc cyI h a1 a2 a3 a4 a5 a6 a7 a8 a9 a10 ((md_ask (adr a z j / 4) false (md_steps a z j (md_thr 0 (mw, mh, ms, mp, ml, mb, mm, md, mc, mhi, msw, mmi, mhc, ma, mq, mt)))).1, (md_ask (adr a z j / 4) false (md_steps a z j (md_thr 0 (mw, mh, ms, mp, ml, mb, mm, md, mc, mhi, msw, mmi, mhc, ma, mq, mt)))).2.1, (md_ask (adr a z j / 4) false (md_steps a z j (md_thr 0 (mw, mh, ms, mp, ml, mb, mm, md, mc, mhi, msw, mmi, mhc, ma, mq, mt)))).2.2.1, (md_ask (adr a z j / 4) false (md_steps a z j (md_thr 0 (mw, mh, ms, mp, ml, mb, mm, md, mc, mhi, msw, mmi, mhc, ma, mq, mt)))).2.2.2.1, (md_ask (adr a z j / 4) false (md_steps a z j (md_thr 0 (mw, mh, ms, mp, ml, mb, mm, md, mc, mhi, msw, mmi, mhc, ma, mq, mt)))).2.2.2.2.1, (md_ask (adr a z j / 4) false (md_steps a z j (md_thr 0 (mw, mh, ms, mp, ml, mb, mm, md, mc, mhi, msw, mmi, mhc, ma, mq, mt)))).2.2.2.2.2.1, (md_ask (adr a z j / 4) false (md_steps a z j (md_thr 0 (mw, mh, ms, mp, ml, mb, mm, md, mc, mhi, msw, mmi, mhc, ma, mq, mt)))).2.2.2.2.2.2.1, (md_ask (adr a z j / 4) false (md_steps a z j (md_thr 0 (mw, mh, ms, mp, ml, mb, mm, md, mc, mhi, msw, mmi, mhc, ma, mq, mt)))).2.2.2.2.2.2.2.1, (md_ask (adr a z j / 4) false (md_steps a z j (md_thr 0 (mw, mh, ms, mp, ml, mb, mm, md, mc, mhi, msw, mmi, mhc, ma, mq, mt)))).2.2.2.2.2.2.2.2.1, (md_ask (adr a z j / 4) false (md_steps a z j (md_thr 0 (mw, mh, ms, mp, ml, mb, mm, md, mc, mhi, msw, mmi, mhc, ma, mq, mt)))).2.2.2.2.2.2.2.2.2.1, (md_ask (adr a z j / 4) false (md_steps a z j (md_thr 0 (mw, mh, ms, mp, ml, mb, mm, md, mc, mhi, msw, mmi, mhc, ma, mq, mt)))).2.2.2.2.2.2.2.2.2.2.1, (md_ask (adr a z j / 4) false (md_steps a z j (md_thr 0 (mw, mh, ms, mp, ml, mb, mm, md, mc, mhi, msw, mmi, mhc, ma, mq, mt)))).2.2.2.2.2.2.2.2.2.2.2.1, (md_ask (adr a z j / 4) false (md_steps a z j (md_thr 0 (mw, mh, ms, mp, ml, mb, mm, md, mc, mhi, msw, mmi, mhc, ma, mq, mt)))).2.2.2.2.2.2.2.2.2.2.2.2.1, (md_ask (adr a z j / 4) false (md_steps a z j (md_thr 0 (mw, mh, ms, mp, ml, mb, mm, md, mc, mhi, msw, mmi, mhc, ma, mq, mt)))).2.2.2.2.2.2.2.2.2.2.2.2.2.1, (md_ask (adr a z j / 4) false (md_steps a z j (md_thr 0 (mw, mh, ms, mp, ml, mb, mm, md, mc, mhi, msw, mmi, mhc, ma, mq, mt)))).2.2.2.2.2.2.2.2.2.2.2.2.2.2.1, (md_ask (adr a z j / 4) false (md_steps a z j (md_thr 0 (mw, mh, ms, mp, ml, mb, mm, md, mc, mhi, msw, mmi, mhc, ma, mq, mt)))).2.2.2.2.2.2.2.2.2.2.2.2.2.2.2)) (isC := [0, 1, 2, 3, 4, 5, 6, 7, 8, 9, 10]) (isR := []) (ps := [0, 1, 2, 3, 4, 5, 6, 7, 8, 9, 10]) (As := [.int (nI ((adr a z j) / 4)), .int (bI false)]) (rest := []) (m_ask l D cyI cyZ cyJ h a1 a2 a3 a4 a5 a6 a7 a8 a9 a10 ((md_steps a z j (md_thr 0 (mw, mh, ms, mp, ml, mb, mm, md, mc, mhi, msw, mmi, mhc, ma, mq, mt))).1) ((md_steps a z j (md_thr 0 (mw, mh, ms, mp, ml, mb, mm, md, mc, mhi, msw, mmi, mhc, ma, mq, mt))).2.1) ((md_steps a z j (md_thr 0 (mw, mh, ms, mp, ml, mb, mm, md, mc, mhi, msw, mmi, mhc, ma, mq, mt))).2.2.1) ((md_steps a z j (md_thr 0 (mw, mh, ms, mp, ml, mb, mm, md, mc, mhi, msw, mmi, mhc, ma, mq, mt))).2.2.2.1) ((md_steps a z j (md_thr 0 (mw, mh, ms, mp, ml, mb, mm, md, mc, mhi, msw, mmi, mhc, ma, mq, mt))).2.2.2.2.1) ((md_steps a z j (md_thr 0 (mw, mh, ms, mp, ml, mb, mm, md, mc, mhi, msw, mmi, mhc, ma, mq, mt))).2.2.2.2.2.1) ((md_steps a z j (md_thr 0 (mw, mh, ms, mp, ml, mb, mm, md, mc, mhi, msw, mmi, mhc, ma, mq, mt))).2.2.2.2.2.2.1) ((md_steps a z j (md_thr 0 (mw, mh, ms, mp, ml, mb, mm, md, mc, mhi, msw, mmi, mhc, ma, mq, mt))).2.2.2.2.2.2.2.1) ((md_steps a z j (md_thr 0 (mw, mh, ms, mp, ml, mb, mm, md, mc, mhi, msw, mmi, mhc, ma, mq, mt))).2.2.2.2.2.2.2.2.1) ((md_steps a z j (md_thr 0 (mw, mh, ms, mp, ml, mb, mm, md, mc, mhi, msw, mmi, mhc, ma, mq, mt))).2.2.2.2.2.2.2.2.2.1) ((md_steps a z j (md_thr 0 (mw, mh, ms, mp, ml, mb, mm, md, mc, mhi, msw, mmi, mhc, ma, mq, mt))).2.2.2.2.2.2.2.2.2.2.1) ((md_steps a z j (md_thr 0 (mw, mh, ms, mp, ml, mb, mm, md, mc, mhi, msw, mmi, mhc, ma, mq, mt))).2.2.2.2.2.2.2.2.2.2.2.1) ((md_steps a z j (md_thr 0 (mw, mh, ms, mp, ml, mb, mm, md, mc, mhi, msw, mmi, mhc, ma, mq, mt))).2.2.2.2.2.2.2.2.2.2.2.2.1) ((md_steps a z j (md_thr 0 (mw, mh, ms, mp, ml, mb, mm, md, mc, mhi, msw, mmi, mhc, ma, mq, mt))).2.2.2.2.2.2.2.2.2.2.2.2.2.1) ((md_steps a z j (md_thr 0 (mw, mh, ms, mp, ml, mb, mm, md, mc, mhi, msw, mmi, mhc, ma, mq, mt))).2.2.2.2.2.2.2.2.2.2.2.2.2.2.1) ((md_steps a z j (md_thr 0 (mw, mh, ms, mp, ml, mb, mm, md, mc, mhi, msw, mmi, mhc, ma, mq, mt))).2.2.2.2.2.2.2.2.2.2.2.2.2.2.2) (adr a z j / 4) false hsb hsa (by omega)) ⟨hx, hb, hown, hts⟩ gX3_walk_X3_asks rfl ⟨rfl, by decide, by decide, by decide +kernel⟩ ⟨Nat.le_of_ble_eq_true rfl, Nat.le_of_ble_eq_true rfl⟩ ⟨rfl, rfl⟩ hml hl.1 hK hP hD hS hA ⟨rfl, rfl, rfl, rfl, rfl, rfl, rfl⟩ rfl ⟨rfl, rfl⟩ rfl rfl (Nat.le_of_ble_eq_true rfl) ⟨Nat.zero_le _, Nat.zero_le _⟩ dX3_walk_76 (fun H locs hP hD hS => ?_)
                    refine lv_iload hx hb dX3_walk_79 (lv_at hl 5 rfl) ?_
                    refine lv_iload_n hx hb dX3_walk_81 rfl (lv_at hl 2 rfl) ?_
                    refine lv_iadd (x := nI (adr a z j)) (y := Int32.ofInt z) hx hb dX3_walk_82 ?_
                    refine lv_sipush (v := nI 1024) hx hb dX3_walk_83 (by decide) ?_
                    refine lv_iadd (x := nI (adr a z j) + Int32.ofInt z) (y := 1024) hx hb dX3_walk_86 ?_
                    rw [show (nI (adr a z j) + Int32.ofInt z + 1024) = nI (((adr a z j : Int) + z + 1024).toNat) from (fm_up (adr a z j) z (by omega))]
                    refine lv_sipush (v := nI 1024) hx hb dX3_walk_87 (by decide) ?_
                    refine mq_irem (x := (((adr a z j : Int) + z + 1024).toNat)) (y := 1024) (by omega) (by decide) (by decide) hx hb dX3_walk_90 ?_
                    rw [show nI ((((adr a z j : Int) + z + 1024).toNat) % 1024) = nI (nxt (adr a z j) z) from (congrArg nI (nxt_up (adr a z j) z (by omega)))]
                    refine lv_istore (lv' := [(5, .int (nI (nxt (adr a z j) z))), (0, .ref h), (1, .int (nI a)), (2, .int (Int32.ofInt z)), (3, .int (nI k)), (4, .int (mc 0)), (6, .int (nI j))]) hx hb dX3_walk_91 hl (by decide) rfl (fun ls hl => ?_)
                    refine lv_iinc (v := nI (j + 1)) (lv' := [(6, .int (nI (j + 1))), (5, .int (nI (nxt (adr a z j) z))), (0, .ref h), (1, .int (nI a)), (2, .int (Int32.ofInt z)), (3, .int (nI k)), (4, .int (mc 0))]) hx hb dX3_walk_93 hl (k := 6) rfl (inc1 _) (by decide) rfl (fun ls hl => ?_)
                    refine lv_goto (tgt := 57) hx hb dX3_walk_96 (by decide) ?_
                    exact ih (j + 1) _ _ _ (by omega) (by omega) hP hD hS (lv_sub hl [2, 3, 4, 5, 6, 1, 0] rfl)
            exact LP57 _ 0 _ _ _ (Nat.zero_le _) (Nat.lt_succ_self _) hP hD hS (lv_sub hl [3, 4, 5, 6, 2, 1, 0] rfl)
          · exact absurd (nI_le hk2 (by decide)) c4
  · exact absurd c1 (by decide)
set_option maxRecDepth 100000 in
set_option maxHeartbeats 4000000 in
theorem m_walkN (l : Launch) (D : va_G) (cyI cyZ cyJ : ClassId) (h a1 a2 a3 a4 a5 a6 a7 a8 a9 a10 : Nat) (mw : Nat → Int32) (mh : Nat → Int32) (ms : Nat → Nat) (mp : Nat → Nat) (ml : Nat → Option Nat) (mb : Nat → Nat) (mm : Nat → Nat) (md : Nat → Bool) (mc : Nat → Int32) (mhi : Int32) (msw : Int32) (mmi : Int32) (mhc : Int32) (ma : Nat → Nat) (mq : Nat) (mt : Nat) (x y v : Int32) (hbad : x < 0 ∨ nI 1024 ≤ x) : CtI l yX3_walk wsX3_walk rmX3_walk D (T3 cyI cyZ cyJ) [.ref h, .int x, .int y, .int v] (MDc cyI h a1 a2 a3 a4 a5 a6 a7 a8 a9 a10 (mw, mh, ms, mp, ml, mb, mm, md, mc, mhi, msw, mmi, mhc, ma, mq, mt)) (mc 0 - mc 0) (MDc cyI h a1 a2 a3 a4 a5 a6 a7 a8 a9 a10 (md_thr 1 (mw, mh, ms, mp, ml, mb, mm, md, mc, mhi, msw, mmi, mhc, ma, mq, mt))) := by
  refine CtI.of (cc := cX3_walk) (maxL := 7) (ret := (some .int)) (lv0 := [(0, .ref h), (1, .int x), (2, .int y), (3, .int v)]) (by decide) rfl (Nat.le_of_ble_eq_true rfl) rfl ?_
  intro p e s m below meth c A ls args Q hx hb hml hr hlk hts hown hK hP hA hD hS hl hQ
  have hown : s.vm.findClass RX3 = some m.cls := hown
  have hi_RX3 : ∀ w ∈ wsX30, w ∈ wsX3_walk := by decide +kernel
  have hf_34 := hts (.fieldLink RX3 34 "OutcastBenchModel" "cost" "[I") (by decide +kernel)
  have hf_44 := hts (.fieldLink RX3 44 "OutcastBenchModel" "thrown" "I") (by decide +kernel)
  refine lv_aload_n hx hb dX3_walk_0 rfl (lv_at hl 0 rfl) ?_
  refine lv_iload_n hx hb dX3_walk_1 rfl (lv_at hl 1 rfl) ?_
  refine CtI.callS (n := 1) (wc := ([] : va_W)) (wr := MDc cyI h a1 a2 a3 a4 a5 a6 a7 a8 a9 a10 (mw, mh, ms, mp, ml, mb, mm, md, mc, mhi, msw, mmi, mhc, ma, mq, mt)) (w1 := ([] : va_W)) (ws' := MDc cyI h a1 a2 a3 a4 a5 a6 a7 a8 a9 a10 (mw, mh, ms, mp, ml, mb, mm, md, mc, mhi, msw, mmi, mhc, ma, mq, mt)) (isC := []) (isR := [0, 1, 2, 3, 4, 5, 6, 7, 8, 9, 10]) (ps := [0, 1, 2, 3, 4, 5, 6, 7, 8, 9, 10]) (As := [.int x]) (rest := [.ref h]) (m_isWordN l D cyI cyZ cyJ x hbad) ⟨hx, hb, hown, hts⟩ gX3_walk_X3_isWord rfl ⟨by decide, by decide, by decide +kernel⟩ ⟨Nat.le_of_ble_eq_true rfl, Nat.le_of_ble_eq_true rfl⟩ ⟨rfl, rfl⟩ hml hl.1 hK hP hD hS hA ⟨rfl, rfl, rfl, rfl, rfl, rfl, rfl⟩ rfl rfl (Nat.le_of_ble_eq_true rfl) ⟨Nat.zero_le _, Nat.zero_le _⟩ dX3_walk_2 (fun H locs hP hD hS => ?_)
  refine mq_bnz (b := false) (tgt := 12) hx hb dX3_walk_5 (by decide) (fun c1 => ?_) (fun c1 => ?_)
  · exact absurd c1 (by decide)
  · refine lv_iconst (v := nI 1) hx hb dX3_walk_8 (by decide) ?_
    refine lv_goto (tgt := 40) hx hb dX3_walk_9 (by decide) ?_
    refine mq_put (D := D) (ci := 3) (v := .int (nI 1)) (ty := .int) (C := RX3) (T := TX3) (N := 16) (ws' := MDc cyI h a1 a2 a3 a4 a5 a6 a7 a8 a9 a10 (mw, mh, ms, mp, ml, mb, mm, md, mc, mhi, msw, mmi, mhc, ma, mq, 1)) hx hb hts hi_RX3 tyX3 tyX3_ok nmX3 hown hK hP hD hS 0 rfl rfl 15 (by decide) hf_44 (fun _ h9 => h9) rfl (by decide +kernel) rfl rfl (Nat.le_of_ble_eq_true rfl) dX3_walk_40 rfl (fun H locs hP hD hS => ?_)
    refine lv_aload_n hx hb dX3_walk_43 rfl (lv_at hl 0 rfl) ?_
    refine va_get (D := D) (ci := 3) (v := .ref a9) (C := RX3) (T := TX3) (N := 16) hx hb hts hi_RX3 hown hK hP 0 rfl rfl 8 (by decide) hf_34 (fun _ h9 => h9) rfl dX3_walk_44 ?_
    refine lv_iconst (v := nI 0) hx hb dX3_walk_47 (by decide) ?_
    refine mq_ldR (k := 0) mc hx hb hK hP 9 0 rfl rfl (by omega) (Nat.le_of_ble_eq_true rfl) dX3_walk_48 ?_
    refine lv_istore (lv' := [(4, .int (mc 0)), (0, .ref h), (1, .int x), (2, .int y), (3, .int v)]) hx hb dX3_walk_49 hl (by decide) rfl (fun ls hl => ?_)
    refine lv_iload_n hx hb dX3_walk_51 rfl (lv_at hl 2 rfl) ?_
    refine lv_istore (lv' := [(5, .int x), (4, .int (mc 0)), (0, .ref h), (1, .int x), (2, .int y), (3, .int v)]) hx hb dX3_walk_52 hl (by decide) rfl (fun ls hl => ?_)
    refine lv_iconst (v := nI 0) hx hb dX3_walk_54 (by decide) ?_
    refine lv_istore (lv' := [(6, .int (nI 0)), (5, .int x), (4, .int (mc 0)), (0, .ref h), (1, .int x), (2, .int y), (3, .int v)]) hx hb dX3_walk_55 hl (by decide) rfl (fun ls hl => ?_)
    refine lv_iload hx hb dX3_walk_57 (lv_at hl 0 rfl) ?_
    refine lv_iload_n hx hb dX3_walk_59 rfl (lv_at hl 6 rfl) ?_
    refine lv_icmp_ge (x := 0) (y := v) (tgt := 99) hx hb dX3_walk_60 (by decide) (fun c8 => ?_) (fun c8 => ?_)
    · refine lv_aload_n hx hb dX3_walk_99 rfl (lv_at hl 3 rfl) ?_
      refine va_get (D := D) (ci := 3) (v := .ref a9) (C := RX3) (T := TX3) (N := 16) hx hb hts hi_RX3 hown hK hP 0 rfl rfl 8 (by decide) hf_34 (fun _ h9 => h9) rfl dX3_walk_100 ?_
      refine lv_iconst (v := nI 0) hx hb dX3_walk_103 (by decide) ?_
      refine mq_ldR (k := 0) mc hx hb hK hP 9 0 rfl rfl (by omega) (Nat.le_of_ble_eq_true rfl) dX3_walk_104 ?_
      refine lv_iload hx hb dX3_walk_105 (lv_at hl 2 rfl) ?_
      refine lv_isub (x := mc 0) (y := mc 0) hx hb dX3_walk_107 ?_
      exact CtI.ret hQ hx hb hr hlk hK hP hD hS dX3_walk_108 rfl (congrArg (MDc cyI h a1 a2 a3 a4 a5 a6 a7 a8 a9 a10) rfl)
    · refine lv_aload_n hx hb dX3_walk_63 rfl (lv_at hl 3 rfl) ?_
      refine va_get (D := D) (ci := 3) (v := .int (nI 1)) (C := RX3) (T := TX3) (N := 16) hx hb hts hi_RX3 hown hK hP 0 rfl rfl 15 (by decide) hf_44 (fun _ h9 => h9) rfl dX3_walk_64 ?_
      refine mq_nz (x := 1) (tgt := 99) (by omega) hx hb dX3_walk_67 (by decide) (fun c2 => ?_) (fun c2 => ?_)
      · refine lv_aload_n hx hb dX3_walk_99 rfl (lv_at hl 3 rfl) ?_
        refine va_get (D := D) (ci := 3) (v := .ref a9) (C := RX3) (T := TX3) (N := 16) hx hb hts hi_RX3 hown hK hP 0 rfl rfl 8 (by decide) hf_34 (fun _ h9 => h9) rfl dX3_walk_100 ?_
        refine lv_iconst (v := nI 0) hx hb dX3_walk_103 (by decide) ?_
        refine mq_ldR (k := 0) mc hx hb hK hP 9 0 rfl rfl (by omega) (Nat.le_of_ble_eq_true rfl) dX3_walk_104 ?_
        refine lv_iload hx hb dX3_walk_105 (lv_at hl 2 rfl) ?_
        refine lv_isub (x := mc 0) (y := mc 0) hx hb dX3_walk_107 ?_
        exact CtI.ret hQ hx hb hr hlk hK hP hD hS dX3_walk_108 rfl (congrArg (MDc cyI h a1 a2 a3 a4 a5 a6 a7 a8 a9 a10) rfl)
      · exact absurd c2 (by decide)
set_option maxRecDepth 100000 in
set_option maxHeartbeats 4000000 in
theorem m_walkM (l : Launch) (D : va_G) (cyI cyZ cyJ : ClassId) (h a1 a2 a3 a4 a5 a6 a7 a8 a9 a10 : Nat) (mw : Nat → Int32) (mh : Nat → Int32) (ms : Nat → Nat) (mp : Nat → Nat) (ml : Nat → Option Nat) (mb : Nat → Nat) (mm : Nat → Nat) (md : Nat → Bool) (mc : Nat → Int32) (mhi : Int32) (msw : Int32) (mmi : Int32) (mhc : Int32) (ma : Nat → Nat) (mq : Nat) (mt : Nat) (a : Nat) (y v : Int32) (ha : a < 1024) (hbad : y < -64 ∨ 64 < y ∨ v < 1 ∨ 100 < v) : CtI l yX3_walk wsX3_walk rmX3_walk D (T3 cyI cyZ cyJ) [.ref h, .int (nI a), .int y, .int v] (MDc cyI h a1 a2 a3 a4 a5 a6 a7 a8 a9 a10 (mw, mh, ms, mp, ml, mb, mm, md, mc, mhi, msw, mmi, mhc, ma, mq, mt)) (mc 0 - mc 0) (MDc cyI h a1 a2 a3 a4 a5 a6 a7 a8 a9 a10 (md_thr 2 (mw, mh, ms, mp, ml, mb, mm, md, mc, mhi, msw, mmi, mhc, ma, mq, mt))) := by
  refine CtI.of (cc := cX3_walk) (maxL := 7) (ret := (some .int)) (lv0 := [(0, .ref h), (1, .int (nI a)), (2, .int y), (3, .int v)]) (by decide) rfl (Nat.le_of_ble_eq_true rfl) rfl ?_
  intro p e s m below meth c A ls args Q hx hb hml hr hlk hts hown hK hP hA hD hS hl hQ
  have hown : s.vm.findClass RX3 = some m.cls := hown
  have hi_RX3 : ∀ w ∈ wsX30, w ∈ wsX3_walk := by decide +kernel
  have hf_34 := hts (.fieldLink RX3 34 "OutcastBenchModel" "cost" "[I") (by decide +kernel)
  have hf_44 := hts (.fieldLink RX3 44 "OutcastBenchModel" "thrown" "I") (by decide +kernel)
  refine lv_aload_n hx hb dX3_walk_0 rfl (lv_at hl 0 rfl) ?_
  refine lv_iload_n hx hb dX3_walk_1 rfl (lv_at hl 1 rfl) ?_
  refine CtI.callS (n := 1) (wc := ([] : va_W)) (wr := MDc cyI h a1 a2 a3 a4 a5 a6 a7 a8 a9 a10 (mw, mh, ms, mp, ml, mb, mm, md, mc, mhi, msw, mmi, mhc, ma, mq, mt)) (w1 := ([] : va_W)) (ws' := MDc cyI h a1 a2 a3 a4 a5 a6 a7 a8 a9 a10 (mw, mh, ms, mp, ml, mb, mm, md, mc, mhi, msw, mmi, mhc, ma, mq, mt)) (isC := []) (isR := [0, 1, 2, 3, 4, 5, 6, 7, 8, 9, 10]) (ps := [0, 1, 2, 3, 4, 5, 6, 7, 8, 9, 10]) (As := [.int (nI a)]) (rest := [.ref h]) (m_isWord l D cyI cyZ cyJ a ha) ⟨hx, hb, hown, hts⟩ gX3_walk_X3_isWord rfl ⟨by decide, by decide, by decide +kernel⟩ ⟨Nat.le_of_ble_eq_true rfl, Nat.le_of_ble_eq_true rfl⟩ ⟨rfl, rfl⟩ hml hl.1 hK hP hD hS hA ⟨rfl, rfl, rfl, rfl, rfl, rfl, rfl⟩ rfl rfl (Nat.le_of_ble_eq_true rfl) ⟨Nat.zero_le _, Nat.zero_le _⟩ dX3_walk_2 (fun H locs hP hD hS => ?_)
  refine mq_bnz (b := true) (tgt := 12) hx hb dX3_walk_5 (by decide) (fun c1 => ?_) (fun c1 => ?_)
  · refine lv_iload_n hx hb dX3_walk_12 rfl (lv_at hl 2 rfl) ?_
    refine lv_bipush (v := -64) hx hb dX3_walk_13 (by decide) ?_
    refine lv_icmp_lt (x := y) (y := -64) (tgt := 35) hx hb dX3_walk_15 (by decide) (fun c1 => ?_) (fun c1 => ?_)
    · refine lv_iconst (v := nI 2) hx hb dX3_walk_35 (by decide) ?_
      refine lv_goto (tgt := 40) hx hb dX3_walk_36 (by decide) ?_
      refine mq_put (D := D) (ci := 3) (v := .int (nI 2)) (ty := .int) (C := RX3) (T := TX3) (N := 16) (ws' := MDc cyI h a1 a2 a3 a4 a5 a6 a7 a8 a9 a10 (mw, mh, ms, mp, ml, mb, mm, md, mc, mhi, msw, mmi, mhc, ma, mq, 2)) hx hb hts hi_RX3 tyX3 tyX3_ok nmX3 hown hK hP hD hS 0 rfl rfl 15 (by decide) hf_44 (fun _ h9 => h9) rfl (by decide +kernel) rfl rfl (Nat.le_of_ble_eq_true rfl) dX3_walk_40 rfl (fun H locs hP hD hS => ?_)
      refine lv_aload_n hx hb dX3_walk_43 rfl (lv_at hl 0 rfl) ?_
      refine va_get (D := D) (ci := 3) (v := .ref a9) (C := RX3) (T := TX3) (N := 16) hx hb hts hi_RX3 hown hK hP 0 rfl rfl 8 (by decide) hf_34 (fun _ h9 => h9) rfl dX3_walk_44 ?_
      refine lv_iconst (v := nI 0) hx hb dX3_walk_47 (by decide) ?_
      refine mq_ldR (k := 0) mc hx hb hK hP 9 0 rfl rfl (by omega) (Nat.le_of_ble_eq_true rfl) dX3_walk_48 ?_
      refine lv_istore (lv' := [(4, .int (mc 0)), (0, .ref h), (1, .int (nI a)), (2, .int y), (3, .int v)]) hx hb dX3_walk_49 hl (by decide) rfl (fun ls hl => ?_)
      refine lv_iload_n hx hb dX3_walk_51 rfl (lv_at hl 2 rfl) ?_
      refine lv_istore (lv' := [(5, .int (nI a)), (4, .int (mc 0)), (0, .ref h), (1, .int (nI a)), (2, .int y), (3, .int v)]) hx hb dX3_walk_52 hl (by decide) rfl (fun ls hl => ?_)
      refine lv_iconst (v := nI 0) hx hb dX3_walk_54 (by decide) ?_
      refine lv_istore (lv' := [(6, .int (nI 0)), (5, .int (nI a)), (4, .int (mc 0)), (0, .ref h), (1, .int (nI a)), (2, .int y), (3, .int v)]) hx hb dX3_walk_55 hl (by decide) rfl (fun ls hl => ?_)
      refine lv_iload hx hb dX3_walk_57 (lv_at hl 0 rfl) ?_
      refine lv_iload_n hx hb dX3_walk_59 rfl (lv_at hl 6 rfl) ?_
      refine lv_icmp_ge (x := 0) (y := v) (tgt := 99) hx hb dX3_walk_60 (by decide) (fun c8 => ?_) (fun c8 => ?_)
      · refine lv_aload_n hx hb dX3_walk_99 rfl (lv_at hl 3 rfl) ?_
        refine va_get (D := D) (ci := 3) (v := .ref a9) (C := RX3) (T := TX3) (N := 16) hx hb hts hi_RX3 hown hK hP 0 rfl rfl 8 (by decide) hf_34 (fun _ h9 => h9) rfl dX3_walk_100 ?_
        refine lv_iconst (v := nI 0) hx hb dX3_walk_103 (by decide) ?_
        refine mq_ldR (k := 0) mc hx hb hK hP 9 0 rfl rfl (by omega) (Nat.le_of_ble_eq_true rfl) dX3_walk_104 ?_
        refine lv_iload hx hb dX3_walk_105 (lv_at hl 2 rfl) ?_
        refine lv_isub (x := mc 0) (y := mc 0) hx hb dX3_walk_107 ?_
        exact CtI.ret hQ hx hb hr hlk hK hP hD hS dX3_walk_108 rfl (congrArg (MDc cyI h a1 a2 a3 a4 a5 a6 a7 a8 a9 a10) rfl)
      · refine lv_aload_n hx hb dX3_walk_63 rfl (lv_at hl 3 rfl) ?_
        refine va_get (D := D) (ci := 3) (v := .int (nI 2)) (C := RX3) (T := TX3) (N := 16) hx hb hts hi_RX3 hown hK hP 0 rfl rfl 15 (by decide) hf_44 (fun _ h9 => h9) rfl dX3_walk_64 ?_
        refine mq_nz (x := 2) (tgt := 99) (by omega) hx hb dX3_walk_67 (by decide) (fun c2 => ?_) (fun c2 => ?_)
        · refine lv_aload_n hx hb dX3_walk_99 rfl (lv_at hl 3 rfl) ?_
          refine va_get (D := D) (ci := 3) (v := .ref a9) (C := RX3) (T := TX3) (N := 16) hx hb hts hi_RX3 hown hK hP 0 rfl rfl 8 (by decide) hf_34 (fun _ h9 => h9) rfl dX3_walk_100 ?_
          refine lv_iconst (v := nI 0) hx hb dX3_walk_103 (by decide) ?_
          refine mq_ldR (k := 0) mc hx hb hK hP 9 0 rfl rfl (by omega) (Nat.le_of_ble_eq_true rfl) dX3_walk_104 ?_
          refine lv_iload hx hb dX3_walk_105 (lv_at hl 2 rfl) ?_
          refine lv_isub (x := mc 0) (y := mc 0) hx hb dX3_walk_107 ?_
          exact CtI.ret hQ hx hb hr hlk hK hP hD hS dX3_walk_108 rfl (congrArg (MDc cyI h a1 a2 a3 a4 a5 a6 a7 a8 a9 a10) rfl)
        · exact absurd c2 (by decide)
    · refine lv_iload_n hx hb dX3_walk_18 rfl (lv_at hl 2 rfl) ?_
      refine lv_bipush (v := nI 64) hx hb dX3_walk_19 (by decide) ?_
      refine lv_icmp_gt (x := y) (y := 64) (tgt := 35) hx hb dX3_walk_21 (by decide) (fun c2 => ?_) (fun c2 => ?_)
      · refine lv_iconst (v := nI 2) hx hb dX3_walk_35 (by decide) ?_
        refine lv_goto (tgt := 40) hx hb dX3_walk_36 (by decide) ?_
        refine mq_put (D := D) (ci := 3) (v := .int (nI 2)) (ty := .int) (C := RX3) (T := TX3) (N := 16) (ws' := MDc cyI h a1 a2 a3 a4 a5 a6 a7 a8 a9 a10 (mw, mh, ms, mp, ml, mb, mm, md, mc, mhi, msw, mmi, mhc, ma, mq, 2)) hx hb hts hi_RX3 tyX3 tyX3_ok nmX3 hown hK hP hD hS 0 rfl rfl 15 (by decide) hf_44 (fun _ h9 => h9) rfl (by decide +kernel) rfl rfl (Nat.le_of_ble_eq_true rfl) dX3_walk_40 rfl (fun H locs hP hD hS => ?_)
        refine lv_aload_n hx hb dX3_walk_43 rfl (lv_at hl 0 rfl) ?_
        refine va_get (D := D) (ci := 3) (v := .ref a9) (C := RX3) (T := TX3) (N := 16) hx hb hts hi_RX3 hown hK hP 0 rfl rfl 8 (by decide) hf_34 (fun _ h9 => h9) rfl dX3_walk_44 ?_
        refine lv_iconst (v := nI 0) hx hb dX3_walk_47 (by decide) ?_
        refine mq_ldR (k := 0) mc hx hb hK hP 9 0 rfl rfl (by omega) (Nat.le_of_ble_eq_true rfl) dX3_walk_48 ?_
        refine lv_istore (lv' := [(4, .int (mc 0)), (0, .ref h), (1, .int (nI a)), (2, .int y), (3, .int v)]) hx hb dX3_walk_49 hl (by decide) rfl (fun ls hl => ?_)
        refine lv_iload_n hx hb dX3_walk_51 rfl (lv_at hl 2 rfl) ?_
        refine lv_istore (lv' := [(5, .int (nI a)), (4, .int (mc 0)), (0, .ref h), (1, .int (nI a)), (2, .int y), (3, .int v)]) hx hb dX3_walk_52 hl (by decide) rfl (fun ls hl => ?_)
        refine lv_iconst (v := nI 0) hx hb dX3_walk_54 (by decide) ?_
        refine lv_istore (lv' := [(6, .int (nI 0)), (5, .int (nI a)), (4, .int (mc 0)), (0, .ref h), (1, .int (nI a)), (2, .int y), (3, .int v)]) hx hb dX3_walk_55 hl (by decide) rfl (fun ls hl => ?_)
        refine lv_iload hx hb dX3_walk_57 (lv_at hl 0 rfl) ?_
        refine lv_iload_n hx hb dX3_walk_59 rfl (lv_at hl 6 rfl) ?_
        refine lv_icmp_ge (x := 0) (y := v) (tgt := 99) hx hb dX3_walk_60 (by decide) (fun c8 => ?_) (fun c8 => ?_)
        · refine lv_aload_n hx hb dX3_walk_99 rfl (lv_at hl 3 rfl) ?_
          refine va_get (D := D) (ci := 3) (v := .ref a9) (C := RX3) (T := TX3) (N := 16) hx hb hts hi_RX3 hown hK hP 0 rfl rfl 8 (by decide) hf_34 (fun _ h9 => h9) rfl dX3_walk_100 ?_
          refine lv_iconst (v := nI 0) hx hb dX3_walk_103 (by decide) ?_
          refine mq_ldR (k := 0) mc hx hb hK hP 9 0 rfl rfl (by omega) (Nat.le_of_ble_eq_true rfl) dX3_walk_104 ?_
          refine lv_iload hx hb dX3_walk_105 (lv_at hl 2 rfl) ?_
          refine lv_isub (x := mc 0) (y := mc 0) hx hb dX3_walk_107 ?_
          exact CtI.ret hQ hx hb hr hlk hK hP hD hS dX3_walk_108 rfl (congrArg (MDc cyI h a1 a2 a3 a4 a5 a6 a7 a8 a9 a10) rfl)
        · refine lv_aload_n hx hb dX3_walk_63 rfl (lv_at hl 3 rfl) ?_
          refine va_get (D := D) (ci := 3) (v := .int (nI 2)) (C := RX3) (T := TX3) (N := 16) hx hb hts hi_RX3 hown hK hP 0 rfl rfl 15 (by decide) hf_44 (fun _ h9 => h9) rfl dX3_walk_64 ?_
          refine mq_nz (x := 2) (tgt := 99) (by omega) hx hb dX3_walk_67 (by decide) (fun c3 => ?_) (fun c3 => ?_)
          · refine lv_aload_n hx hb dX3_walk_99 rfl (lv_at hl 3 rfl) ?_
            refine va_get (D := D) (ci := 3) (v := .ref a9) (C := RX3) (T := TX3) (N := 16) hx hb hts hi_RX3 hown hK hP 0 rfl rfl 8 (by decide) hf_34 (fun _ h9 => h9) rfl dX3_walk_100 ?_
            refine lv_iconst (v := nI 0) hx hb dX3_walk_103 (by decide) ?_
            refine mq_ldR (k := 0) mc hx hb hK hP 9 0 rfl rfl (by omega) (Nat.le_of_ble_eq_true rfl) dX3_walk_104 ?_
            refine lv_iload hx hb dX3_walk_105 (lv_at hl 2 rfl) ?_
            refine lv_isub (x := mc 0) (y := mc 0) hx hb dX3_walk_107 ?_
            exact CtI.ret hQ hx hb hr hlk hK hP hD hS dX3_walk_108 rfl (congrArg (MDc cyI h a1 a2 a3 a4 a5 a6 a7 a8 a9 a10) rfl)
          · exact absurd c3 (by decide)
      · refine lv_iload_n hx hb dX3_walk_24 rfl (lv_at hl 3 rfl) ?_
        refine lv_iconst (v := nI 1) hx hb dX3_walk_25 (by decide) ?_
        refine lv_icmp_lt (x := v) (y := 1) (tgt := 35) hx hb dX3_walk_26 (by decide) (fun c3 => ?_) (fun c3 => ?_)
        · refine lv_iconst (v := nI 2) hx hb dX3_walk_35 (by decide) ?_
          refine lv_goto (tgt := 40) hx hb dX3_walk_36 (by decide) ?_
          refine mq_put (D := D) (ci := 3) (v := .int (nI 2)) (ty := .int) (C := RX3) (T := TX3) (N := 16) (ws' := MDc cyI h a1 a2 a3 a4 a5 a6 a7 a8 a9 a10 (mw, mh, ms, mp, ml, mb, mm, md, mc, mhi, msw, mmi, mhc, ma, mq, 2)) hx hb hts hi_RX3 tyX3 tyX3_ok nmX3 hown hK hP hD hS 0 rfl rfl 15 (by decide) hf_44 (fun _ h9 => h9) rfl (by decide +kernel) rfl rfl (Nat.le_of_ble_eq_true rfl) dX3_walk_40 rfl (fun H locs hP hD hS => ?_)
          refine lv_aload_n hx hb dX3_walk_43 rfl (lv_at hl 0 rfl) ?_
          refine va_get (D := D) (ci := 3) (v := .ref a9) (C := RX3) (T := TX3) (N := 16) hx hb hts hi_RX3 hown hK hP 0 rfl rfl 8 (by decide) hf_34 (fun _ h9 => h9) rfl dX3_walk_44 ?_
          refine lv_iconst (v := nI 0) hx hb dX3_walk_47 (by decide) ?_
          refine mq_ldR (k := 0) mc hx hb hK hP 9 0 rfl rfl (by omega) (Nat.le_of_ble_eq_true rfl) dX3_walk_48 ?_
          refine lv_istore (lv' := [(4, .int (mc 0)), (0, .ref h), (1, .int (nI a)), (2, .int y), (3, .int v)]) hx hb dX3_walk_49 hl (by decide) rfl (fun ls hl => ?_)
          refine lv_iload_n hx hb dX3_walk_51 rfl (lv_at hl 2 rfl) ?_
          refine lv_istore (lv' := [(5, .int (nI a)), (4, .int (mc 0)), (0, .ref h), (1, .int (nI a)), (2, .int y), (3, .int v)]) hx hb dX3_walk_52 hl (by decide) rfl (fun ls hl => ?_)
          refine lv_iconst (v := nI 0) hx hb dX3_walk_54 (by decide) ?_
          refine lv_istore (lv' := [(6, .int (nI 0)), (5, .int (nI a)), (4, .int (mc 0)), (0, .ref h), (1, .int (nI a)), (2, .int y), (3, .int v)]) hx hb dX3_walk_55 hl (by decide) rfl (fun ls hl => ?_)
          refine lv_iload hx hb dX3_walk_57 (lv_at hl 0 rfl) ?_
          refine lv_iload_n hx hb dX3_walk_59 rfl (lv_at hl 6 rfl) ?_
          refine lv_icmp_ge (x := 0) (y := v) (tgt := 99) hx hb dX3_walk_60 (by decide) (fun c8 => ?_) (fun c8 => ?_)
          · refine lv_aload_n hx hb dX3_walk_99 rfl (lv_at hl 3 rfl) ?_
            refine va_get (D := D) (ci := 3) (v := .ref a9) (C := RX3) (T := TX3) (N := 16) hx hb hts hi_RX3 hown hK hP 0 rfl rfl 8 (by decide) hf_34 (fun _ h9 => h9) rfl dX3_walk_100 ?_
            refine lv_iconst (v := nI 0) hx hb dX3_walk_103 (by decide) ?_
            refine mq_ldR (k := 0) mc hx hb hK hP 9 0 rfl rfl (by omega) (Nat.le_of_ble_eq_true rfl) dX3_walk_104 ?_
            refine lv_iload hx hb dX3_walk_105 (lv_at hl 2 rfl) ?_
            refine lv_isub (x := mc 0) (y := mc 0) hx hb dX3_walk_107 ?_
            exact CtI.ret hQ hx hb hr hlk hK hP hD hS dX3_walk_108 rfl (congrArg (MDc cyI h a1 a2 a3 a4 a5 a6 a7 a8 a9 a10) rfl)
          · refine lv_aload_n hx hb dX3_walk_63 rfl (lv_at hl 3 rfl) ?_
            refine va_get (D := D) (ci := 3) (v := .int (nI 2)) (C := RX3) (T := TX3) (N := 16) hx hb hts hi_RX3 hown hK hP 0 rfl rfl 15 (by decide) hf_44 (fun _ h9 => h9) rfl dX3_walk_64 ?_
            refine mq_nz (x := 2) (tgt := 99) (by omega) hx hb dX3_walk_67 (by decide) (fun c4 => ?_) (fun c4 => ?_)
            · refine lv_aload_n hx hb dX3_walk_99 rfl (lv_at hl 3 rfl) ?_
              refine va_get (D := D) (ci := 3) (v := .ref a9) (C := RX3) (T := TX3) (N := 16) hx hb hts hi_RX3 hown hK hP 0 rfl rfl 8 (by decide) hf_34 (fun _ h9 => h9) rfl dX3_walk_100 ?_
              refine lv_iconst (v := nI 0) hx hb dX3_walk_103 (by decide) ?_
              refine mq_ldR (k := 0) mc hx hb hK hP 9 0 rfl rfl (by omega) (Nat.le_of_ble_eq_true rfl) dX3_walk_104 ?_
              refine lv_iload hx hb dX3_walk_105 (lv_at hl 2 rfl) ?_
              refine lv_isub (x := mc 0) (y := mc 0) hx hb dX3_walk_107 ?_
              exact CtI.ret hQ hx hb hr hlk hK hP hD hS dX3_walk_108 rfl (congrArg (MDc cyI h a1 a2 a3 a4 a5 a6 a7 a8 a9 a10) rfl)
            · exact absurd c4 (by decide)
        · refine lv_iload_n hx hb dX3_walk_29 rfl (lv_at hl 3 rfl) ?_
          refine lv_bipush (v := nI 100) hx hb dX3_walk_30 (by decide) ?_
          refine lv_icmp_le (x := v) (y := 100) (tgt := 39) hx hb dX3_walk_32 (by decide) (fun c4 => ?_) (fun c4 => ?_)
          · exact absurd hbad (fun hh => hh.elim c1 (fun hh => hh.elim c2 (fun hh => hh.elim c3 (fun hh => Int32.not_le.mpr hh c4))))
          · refine lv_iconst (v := nI 2) hx hb dX3_walk_35 (by decide) ?_
            refine lv_goto (tgt := 40) hx hb dX3_walk_36 (by decide) ?_
            refine mq_put (D := D) (ci := 3) (v := .int (nI 2)) (ty := .int) (C := RX3) (T := TX3) (N := 16) (ws' := MDc cyI h a1 a2 a3 a4 a5 a6 a7 a8 a9 a10 (mw, mh, ms, mp, ml, mb, mm, md, mc, mhi, msw, mmi, mhc, ma, mq, 2)) hx hb hts hi_RX3 tyX3 tyX3_ok nmX3 hown hK hP hD hS 0 rfl rfl 15 (by decide) hf_44 (fun _ h9 => h9) rfl (by decide +kernel) rfl rfl (Nat.le_of_ble_eq_true rfl) dX3_walk_40 rfl (fun H locs hP hD hS => ?_)
            refine lv_aload_n hx hb dX3_walk_43 rfl (lv_at hl 0 rfl) ?_
            refine va_get (D := D) (ci := 3) (v := .ref a9) (C := RX3) (T := TX3) (N := 16) hx hb hts hi_RX3 hown hK hP 0 rfl rfl 8 (by decide) hf_34 (fun _ h9 => h9) rfl dX3_walk_44 ?_
            refine lv_iconst (v := nI 0) hx hb dX3_walk_47 (by decide) ?_
            refine mq_ldR (k := 0) mc hx hb hK hP 9 0 rfl rfl (by omega) (Nat.le_of_ble_eq_true rfl) dX3_walk_48 ?_
            refine lv_istore (lv' := [(4, .int (mc 0)), (0, .ref h), (1, .int (nI a)), (2, .int y), (3, .int v)]) hx hb dX3_walk_49 hl (by decide) rfl (fun ls hl => ?_)
            refine lv_iload_n hx hb dX3_walk_51 rfl (lv_at hl 2 rfl) ?_
            refine lv_istore (lv' := [(5, .int (nI a)), (4, .int (mc 0)), (0, .ref h), (1, .int (nI a)), (2, .int y), (3, .int v)]) hx hb dX3_walk_52 hl (by decide) rfl (fun ls hl => ?_)
            refine lv_iconst (v := nI 0) hx hb dX3_walk_54 (by decide) ?_
            refine lv_istore (lv' := [(6, .int (nI 0)), (5, .int (nI a)), (4, .int (mc 0)), (0, .ref h), (1, .int (nI a)), (2, .int y), (3, .int v)]) hx hb dX3_walk_55 hl (by decide) rfl (fun ls hl => ?_)
            refine lv_iload hx hb dX3_walk_57 (lv_at hl 0 rfl) ?_
            refine lv_iload_n hx hb dX3_walk_59 rfl (lv_at hl 6 rfl) ?_
            refine lv_icmp_ge (x := 0) (y := v) (tgt := 99) hx hb dX3_walk_60 (by decide) (fun c8 => ?_) (fun c8 => ?_)
            · refine lv_aload_n hx hb dX3_walk_99 rfl (lv_at hl 3 rfl) ?_
              refine va_get (D := D) (ci := 3) (v := .ref a9) (C := RX3) (T := TX3) (N := 16) hx hb hts hi_RX3 hown hK hP 0 rfl rfl 8 (by decide) hf_34 (fun _ h9 => h9) rfl dX3_walk_100 ?_
              refine lv_iconst (v := nI 0) hx hb dX3_walk_103 (by decide) ?_
              refine mq_ldR (k := 0) mc hx hb hK hP 9 0 rfl rfl (by omega) (Nat.le_of_ble_eq_true rfl) dX3_walk_104 ?_
              refine lv_iload hx hb dX3_walk_105 (lv_at hl 2 rfl) ?_
              refine lv_isub (x := mc 0) (y := mc 0) hx hb dX3_walk_107 ?_
              exact CtI.ret hQ hx hb hr hlk hK hP hD hS dX3_walk_108 rfl (congrArg (MDc cyI h a1 a2 a3 a4 a5 a6 a7 a8 a9 a10) rfl)
            · refine lv_aload_n hx hb dX3_walk_63 rfl (lv_at hl 3 rfl) ?_
              refine va_get (D := D) (ci := 3) (v := .int (nI 2)) (C := RX3) (T := TX3) (N := 16) hx hb hts hi_RX3 hown hK hP 0 rfl rfl 15 (by decide) hf_44 (fun _ h9 => h9) rfl dX3_walk_64 ?_
              refine mq_nz (x := 2) (tgt := 99) (by omega) hx hb dX3_walk_67 (by decide) (fun c5 => ?_) (fun c5 => ?_)
              · refine lv_aload_n hx hb dX3_walk_99 rfl (lv_at hl 3 rfl) ?_
                refine va_get (D := D) (ci := 3) (v := .ref a9) (C := RX3) (T := TX3) (N := 16) hx hb hts hi_RX3 hown hK hP 0 rfl rfl 8 (by decide) hf_34 (fun _ h9 => h9) rfl dX3_walk_100 ?_
                refine lv_iconst (v := nI 0) hx hb dX3_walk_103 (by decide) ?_
                refine mq_ldR (k := 0) mc hx hb hK hP 9 0 rfl rfl (by omega) (Nat.le_of_ble_eq_true rfl) dX3_walk_104 ?_
                refine lv_iload hx hb dX3_walk_105 (lv_at hl 2 rfl) ?_
                refine lv_isub (x := mc 0) (y := mc 0) hx hb dX3_walk_107 ?_
                exact CtI.ret hQ hx hb hr hlk hK hP hD hS dX3_walk_108 rfl (congrArg (MDc cyI h a1 a2 a3 a4 a5 a6 a7 a8 a9 a10) rfl)
              · exact absurd c5 (by decide)
  · exact absurd c1 (by decide)

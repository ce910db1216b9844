abbrev rmX3_throwsOut : Room := { frames := 2, cells := 0, slots := 0, locals := 45 }
set_option maxRecDepth 100000 in
set_option maxHeartbeats 4000000 in
theorem m_throws (l : Launch) (D : va_G) (cyI cyZ cyJ : ClassId) (h a1 a2 a3 a4 a5 a6 a7 a8 a9 a10 : Nat) (mw : Nat → Int32) (mh : Nat → Int32) (ms : Nat → Nat) (mp : Nat → Nat) (ml : Nat → Option Nat) (mb : Nat → Nat) (mm : Nat → Nat) (md : Nat → Bool) (mc : Nat → Int32) (mhi : Int32) (msw : Int32) (mmi : Int32) (mhc : Int32) (ma : Nat → Nat) (mq : Nat) (mt : Nat) (w si q : Nat) (hw : w < 2) (hs : si < 16) (hmlq : ml (16 * w + si) = some q) (hq : q < 256) (hb9 : md_bd w (mw, mh, ms, mp, ml, mb, mm, md, mc, mhi, msw, mmi, mhc, ma, mq, mt)) : CtV l yX3_throwsOut wsX3_throwsOut rmX3_throwsOut D (T3 cyI cyZ cyJ) [.ref h, .int (nI w), .int (nI si)] (MDc cyI h a1 a2 a3 a4 a5 a6 a7 a8 a9 a10 (mw, mh, ms, mp, ml, mb, mm, md, mc, mhi, msw, mmi, mhc, ma, mq, mt)) (MDc cyI h a1 a2 a3 a4 a5 a6 a7 a8 a9 a10 (md_throws w si q (mw, mh, ms, mp, ml, mb, mm, md, mc, mhi, msw, mmi, mhc, ma, mq, mt))) := by
  refine CtV.of (cc := cX3_throwsOut) (maxL := 5) (ret := none) (lv0 := [(0, .ref h), (1, .int (nI w)), (2, .int (nI si))]) (by decide) rfl (Nat.le_of_ble_eq_true rfl) rfl ?_
  intro p e s m below meth c A ls args Q hx hb hml hr hlk hts hown hK hP hA hD hS hl hQ
  have hown : s.vm.findClass RX3 = some m.cls := hown
  have hi_RX3 : ∀ w ∈ wsX30, w ∈ wsX3_throwsOut := by decide +kernel
  have hf_19 := hts (.fieldLink RX3 19 "OutcastBenchModel" "places" "[I") (by decide +kernel)
  have hf_22 := hts (.fieldLink RX3 22 "OutcastBenchModel" "lineOf" "[I") (by decide +kernel)
  have hf_25 := hts (.fieldLink RX3 25 "OutcastBenchModel" "bench" "[I") (by decide +kernel)
  have hf_28 := hts (.fieldLink RX3 28 "OutcastBenchModel" "many" "[I") (by decide +kernel)
  have hb0 := hb9
  obtain ⟨hms, hmp, hmm, hml8, hmb8⟩ := hb0
  refine lv_aload_n hx hb dX3_throwsOut_0 rfl (lv_at hl 0 rfl) ?_
  refine va_get (D := D) (ci := 3) (v := .ref a5) (C := RX3) (T := TX3) (N := 16) hx hb hts hi_RX3 hown hK hP 0 rfl rfl 4 (by decide) hf_22 (fun _ h9 => h9) rfl dX3_throwsOut_1 ?_
  refine lv_bipush (v := nI 16) hx hb dX3_throwsOut_4 (by decide) ?_
  refine lv_iload_n hx hb dX3_throwsOut_6 rfl (lv_at hl 1 rfl) ?_
  refine mq_imul (x := 16) (y := w) hx hb dX3_throwsOut_7 ?_
  refine lv_iload_n hx hb dX3_throwsOut_8 rfl (lv_at hl 2 rfl) ?_
  refine mq_iadd (x := (16 * w)) (y := si) hx hb dX3_throwsOut_9 ?_
  refine mq_ld (k := (16 * w + si)) oI ml hx hb hK hP 5 0 rfl rfl (by omega) (Nat.le_of_ble_eq_true rfl) dX3_throwsOut_10 ?_
  rw [show oI (ml (16 * w + si)) = nI q from (by rw [hmlq]; rfl)]
  refine lv_istore_n (lv' := [(3, .int (nI q)), (0, .ref h), (1, .int (nI w)), (2, .int (nI si))]) hx hb dX3_throwsOut_11 rfl hl (by decide) rfl (fun ls hl => ?_)
  refine lv_aload_n hx hb dX3_throwsOut_12 rfl (lv_at hl 1 rfl) ?_
  refine va_get (D := D) (ci := 3) (v := .ref a5) (C := RX3) (T := TX3) (N := 16) hx hb hts hi_RX3 hown hK hP 0 rfl rfl 4 (by decide) hf_22 (fun _ h9 => h9) rfl dX3_throwsOut_13 ?_
  refine lv_bipush (v := nI 16) hx hb dX3_throwsOut_16 (by decide) ?_
  refine lv_iload_n hx hb dX3_throwsOut_18 rfl (lv_at hl 2 rfl) ?_
  refine mq_imul (x := 16) (y := w) hx hb dX3_throwsOut_19 ?_
  refine lv_iload_n hx hb dX3_throwsOut_20 rfl (lv_at hl 3 rfl) ?_
  refine mq_iadd (x := (16 * w)) (y := si) hx hb dX3_throwsOut_21 ?_
  refine lv_iconst (v := -1) hx hb dX3_throwsOut_22 (by decide) ?_
  refine mq_st (k := (16 * w + si)) oI ml none (ws' := MDc cyI h a1 a2 a3 a4 a5 a6 a7 a8 a9 a10 (mw, mh, ms, mp, ru ml (16 * w + si) none, mb, mm, md, mc, mhi, msw, mmi, mhc, ma, mq, mt)) hx hb hK hP hD hS 5 0 rfl rfl (by omega) (Nat.le_of_ble_eq_true rfl) dX3_throwsOut_23 rfl (fun H locs hP hD hS => ?_)
  refine lv_aload_n hx hb dX3_throwsOut_24 rfl (lv_at hl 1 rfl) ?_
  refine va_get (D := D) (ci := 3) (v := .ref a4) (C := RX3) (T := TX3) (N := 16) hx hb hts hi_RX3 hown hK hP 0 rfl rfl 3 (by decide) hf_19 (fun _ h9 => h9) rfl dX3_throwsOut_25 ?_
  refine lv_iload_n hx hb dX3_throwsOut_28 rfl (lv_at hl 2 rfl) ?_
  refine mq_ld (k := w) nI mp hx hb hK hP 4 0 rfl rfl (by omega) (Nat.le_of_ble_eq_true rfl) dX3_throwsOut_29 ?_
  refine mq_nz (x := (mp w)) (tgt := 40) (by omega) hx hb dX3_throwsOut_30 (by decide) (fun c1 => ?_) (fun c1 => ?_)
  · refine lv_aload_n hx hb dX3_throwsOut_40 rfl (lv_at hl 1 rfl) ?_
    refine va_get (D := D) (ci := 3) (v := .ref a7) (C := RX3) (T := TX3) (N := 16) hx hb hts hi_RX3 hown hK hP 0 rfl rfl 6 (by decide) hf_28 (fun _ h9 => h9) rfl dX3_throwsOut_41 ?_
    refine lv_iload_n hx hb dX3_throwsOut_44 rfl (lv_at hl 2 rfl) ?_
    refine mq_ld (k := w) nI mm hx hb hK hP 7 0 rfl rfl (by omega) (Nat.le_of_ble_eq_true rfl) dX3_throwsOut_45 ?_
    refine lv_aload_n hx hb dX3_throwsOut_46 rfl (lv_at hl 1 rfl) ?_
    refine va_get (D := D) (ci := 3) (v := .ref a4) (C := RX3) (T := TX3) (N := 16) hx hb hts hi_RX3 hown hK hP 0 rfl rfl 3 (by decide) hf_19 (fun _ h9 => h9) rfl dX3_throwsOut_47 ?_
    refine lv_iload_n hx hb dX3_throwsOut_50 rfl (lv_at hl 2 rfl) ?_
    refine mq_ld (k := w) nI mp hx hb hK hP 4 0 rfl rfl (by omega) (Nat.le_of_ble_eq_true rfl) dX3_throwsOut_51 ?_
    refine mq_ne (x := (mm w)) (y := (mp w)) (tgt := 92) (by omega) (by omega) hx hb dX3_throwsOut_52 (by decide) (fun c2 => ?_) (fun c2 => ?_)
    · refine lv_aload_n hx hb dX3_throwsOut_92 rfl (lv_at hl 1 rfl) ?_
      refine lv_iload_n hx hb dX3_throwsOut_93 rfl (lv_at hl 2 rfl) ?_
      refine lv_iload_n hx hb dX3_throwsOut_94 rfl (lv_at hl 0 rfl) ?_
      refine CtV.callV (n := 2) (q0 := 0) (ci := 3) (wc := MDc cyI h a1 a2 a3 a4 a5 a6 a7 a8 a9 a10 (mw, mh, ms, mp, ru ml (16 * w + si) none, mb, mm, md, mc, mhi, msw, mmi, mhc, ma, mq, mt)) (wr := ([] : va_W)) (w1 := MDc cyI h a1 a2 a3 a4 a5 a6 a7 a8 a9 a10 (mw, mh, ms, mp, ru ml (16 * w + si) none, ru (shr mb (8 * w) (8 * w + mm w)) (8 * w) q, ru mm w (mm w + 1), md, mc, mhi, msw, mmi, mhc, ma, mq, mt)) (ws' := MDc cyI h a1 a2 a3 a4 a5 a6 a7 a8 a9 a10 (mw, mh, ms, mp, ru ml (16 * w + si) none, ru (shr mb (8 * w) (8 * w + mm w)) (8 * w) q, ru mm w (mm w + 1), md, mc, mhi, msw, mmi, mhc, ma, mq, mt)) (isC := [0, 1, 2, 3, 4, 5, 6, 7, 8, 9, 10]) (isR := []) (ps := [0, 1, 2, 3, 4, 5, 6, 7, 8, 9, 10]) (As := [.int (nI w), .int (nI q)]) (rest := []) (m_sits l D cyI cyZ cyJ h a1 a2 a3 a4 a5 a6 a7 a8 a9 a10 mw mh ms mp (ru ml (16 * w + si) none) mb mm md mc mhi msw mmi mhc ma mq mt w q hw (by omega)) ⟨hx, hb, hown, hts⟩ gX3_throwsOut_X3_sits rfl ⟨rfl, by decide, by decide, by decide +kernel⟩ ⟨Nat.le_of_ble_eq_true rfl, Nat.le_of_ble_eq_true rfl⟩ ⟨rfl, rfl⟩ hml hl.1 hK hP hD hS hA ⟨rfl, rfl, rfl, rfl, rfl, rfl, rfl⟩ rfl ⟨rfl, rfl⟩ rfl rfl (Nat.le_of_ble_eq_true rfl) ⟨Nat.zero_le _, Nat.zero_le _⟩ dX3_throwsOut_95 (fun H locs hP hD hS => ?_)
      exact CtV.ret hQ hx hb hr hlk hK hP hD hS dX3_throwsOut_98 (congrArg (MDc cyI h a1 a2 a3 a4 a5 a6 a7 a8 a9 a10) (by unfold md_throws; dsimp only; rw [if_neg (by omega), if_neg c2]; rfl))
    · refine lv_aload_n hx hb dX3_throwsOut_55 rfl (lv_at hl 1 rfl) ?_
      refine va_get (D := D) (ci := 3) (v := .ref a6) (C := RX3) (T := TX3) (N := 16) hx hb hts hi_RX3 hown hK hP 0 rfl rfl 5 (by decide) hf_25 (fun _ h9 => h9) rfl dX3_throwsOut_56 ?_
      refine lv_bipush (v := nI 8) hx hb dX3_throwsOut_59 (by decide) ?_
      refine lv_iload_n hx hb dX3_throwsOut_61 rfl (lv_at hl 2 rfl) ?_
      refine mq_imul (x := 8) (y := w) hx hb dX3_throwsOut_62 ?_
      refine lv_aload_n hx hb dX3_throwsOut_63 rfl (lv_at hl 1 rfl) ?_
      refine va_get (D := D) (ci := 3) (v := .ref a7) (C := RX3) (T := TX3) (N := 16) hx hb hts hi_RX3 hown hK hP 0 rfl rfl 6 (by decide) hf_28 (fun _ h9 => h9) rfl dX3_throwsOut_64 ?_
      refine lv_iload_n hx hb dX3_throwsOut_67 rfl (lv_at hl 2 rfl) ?_
      refine mq_ld (k := w) nI mm hx hb hK hP 7 0 rfl rfl (by omega) (Nat.le_of_ble_eq_true rfl) dX3_throwsOut_68 ?_
      refine mq_iadd (x := (8 * w)) (y := (mm w)) hx hb dX3_throwsOut_69 ?_
      refine lv_iconst (v := nI 1) hx hb dX3_throwsOut_70 (by decide) ?_
      refine mq_isub (x := (8 * w + (mm w))) (y := 1) (by omega) hx hb dX3_throwsOut_71 ?_
      refine mq_ld (k := (8 * w + (mm w) - 1)) nI mb hx hb hK hP 6 0 rfl rfl (by omega) (Nat.le_of_ble_eq_true rfl) dX3_throwsOut_72 ?_
      refine lv_istore (lv' := [(4, .int (nI (mb (8 * w + (mm w) - 1)))), (3, .int (nI q)), (0, .ref h), (1, .int (nI w)), (2, .int (nI si))]) hx hb dX3_throwsOut_73 hl (by decide) rfl (fun ls hl => ?_)
      refine lv_aload_n hx hb dX3_throwsOut_75 rfl (lv_at hl 2 rfl) ?_
      refine va_get (D := D) (ci := 3) (v := .ref a7) (C := RX3) (T := TX3) (N := 16) hx hb hts hi_RX3 hown hK hP 0 rfl rfl 6 (by decide) hf_28 (fun _ h9 => h9) rfl dX3_throwsOut_76 ?_
      refine lv_iload_n hx hb dX3_throwsOut_79 rfl (lv_at hl 3 rfl) ?_
      refine lv_dup2_11 hx hb dX3_throwsOut_80 rfl rfl ?_
      refine mq_ld (k := w) nI mm hx hb hK hP 7 0 rfl rfl (by omega) (Nat.le_of_ble_eq_true rfl) dX3_throwsOut_81 ?_
      refine lv_iconst (v := nI 1) hx hb dX3_throwsOut_82 (by decide) ?_
      refine mq_isub (x := (mm w)) (y := 1) (by omega) hx hb dX3_throwsOut_83 ?_
      refine mq_st (k := w) nI mm ((mm w) - 1) (ws' := MDc cyI h a1 a2 a3 a4 a5 a6 a7 a8 a9 a10 (mw, mh, ms, mp, ru ml (16 * w + si) none, mb, ru mm w ((mm w) - 1), md, mc, mhi, msw, mmi, mhc, ma, mq, mt)) hx hb hK hP hD hS 7 0 rfl rfl (by omega) (Nat.le_of_ble_eq_true rfl) dX3_throwsOut_84 rfl (fun H locs hP hD hS => ?_)
      refine lv_aload_n hx hb dX3_throwsOut_85 rfl (lv_at hl 2 rfl) ?_
      refine lv_iload_n hx hb dX3_throwsOut_86 rfl (lv_at hl 3 rfl) ?_
      refine lv_iload hx hb dX3_throwsOut_87 (lv_at hl 0 rfl) ?_
      obtain ⟨⟨mw1, mh1, ms1, mp1, ml1, mb1, mm1, md1, mc1, mhi1, msw1, mmi1, mhc1, ma1, mq1, mt1⟩, hv1⟩ : ∃ z : MDu, z = md_goes w (mb (8 * w + mm w - 1)) (mw, mh, ms, mp, ru ml (16 * w + si) none, mb, ru mm w ((mm w) - 1), md, mc, mhi, msw, mmi, mhc, ma, mq, mt) := ⟨_, rfl⟩
      have hT := m_goes l D cyI cyZ cyJ h a1 a2 a3 a4 a5 a6 a7 a8 a9 a10 mw mh ms mp (ru ml (16 * w + si) none) mb (ru mm w ((mm w) - 1)) md mc mhi msw mmi mhc ma mq mt w (mb (8 * w + mm w - 1)) hw (by rw [show 8 * w + mm w - 1 = 8 * w + (mm w - 1) by omega]; exact hmb8 _ (by omega))
      rw [← hv1] at hT
      have hm1 : mm1 = ru mm w (mm w - 1) := by have h9 := (md_goes_many (x := (mw, mh, ms, mp, ru ml (16 * w + si) none, mb, ru mm w ((mm w) - 1), md, mc, mhi, msw, mmi, mhc, ma, mq, mt)) (w := w) (q := mb (8 * w + mm w - 1))).1; rw [← hv1] at h9; exact h9
      refine CtV.callV (n := 2) (q0 := 0) (ci := 3) (wc := MDc cyI h a1 a2 a3 a4 a5 a6 a7 a8 a9 a10 (mw, mh, ms, mp, ru ml (16 * w + si) none, mb, ru mm w ((mm w) - 1), md, mc, mhi, msw, mmi, mhc, ma, mq, mt)) (wr := ([] : va_W)) (w1 := MDc cyI h a1 a2 a3 a4 a5 a6 a7 a8 a9 a10 (mw1, mh1, ms1, mp1, ml1, mb1, mm1, md1, mc1, mhi1, msw1, mmi1, mhc1, ma1, mq1, mt1)) (ws' := MDc cyI h a1 a2 a3 a4 a5 a6 a7 a8 a9 a10 (mw1, mh1, ms1, mp1, ml1, mb1, mm1, md1, mc1, mhi1, msw1, mmi1, mhc1, ma1, mq1, mt1)) (isC := [0, 1, 2, 3, 4, 5, 6, 7, 8, 9, 10]) (isR := []) (ps := [0, 1, 2, 3, 4, 5, 6, 7, 8, 9, 10]) (As := [.int (nI w), .int (nI (mb (8 * w + (mm w) - 1)))]) (rest := []) (hT) ⟨hx, hb, hown, hts⟩ gX3_throwsOut_X3_goesHome rfl ⟨rfl, by decide, by decide, by decide +kernel⟩ ⟨Nat.le_of_ble_eq_true rfl, Nat.le_of_ble_eq_true rfl⟩ ⟨rfl, rfl⟩ hml hl.1 hK hP hD hS hA ⟨rfl, rfl, rfl, rfl, rfl, rfl, rfl⟩ rfl ⟨rfl, rfl⟩ rfl rfl (Nat.le_of_ble_eq_true rfl) ⟨Nat.zero_le _, Nat.zero_le _⟩ dX3_throwsOut_89 (fun H locs hP hD hS => ?_)
      refine lv_aload_n hx hb dX3_throwsOut_92 rfl (lv_at hl 2 rfl) ?_
      refine lv_iload_n hx hb dX3_throwsOut_93 rfl (lv_at hl 3 rfl) ?_
      refine lv_iload_n hx hb dX3_throwsOut_94 rfl (lv_at hl 1 rfl) ?_
      refine CtV.callV (n := 2) (q0 := 0) (ci := 3) (wc := MDc cyI h a1 a2 a3 a4 a5 a6 a7 a8 a9 a10 (mw1, mh1, ms1, mp1, ml1, mb1, mm1, md1, mc1, mhi1, msw1, mmi1, mhc1, ma1, mq1, mt1)) (wr := ([] : va_W)) (w1 := MDc cyI h a1 a2 a3 a4 a5 a6 a7 a8 a9 a10 (mw1, mh1, ms1, mp1, ml1, ru (shr mb1 (8 * w) (8 * w + mm1 w)) (8 * w) q, ru mm1 w (mm1 w + 1), md1, mc1, mhi1, msw1, mmi1, mhc1, ma1, mq1, mt1)) (ws' := MDc cyI h a1 a2 a3 a4 a5 a6 a7 a8 a9 a10 (mw1, mh1, ms1, mp1, ml1, ru (shr mb1 (8 * w) (8 * w + mm1 w)) (8 * w) q, ru mm1 w (mm1 w + 1), md1, mc1, mhi1, msw1, mmi1, mhc1, ma1, mq1, mt1)) (isC := [0, 1, 2, 3, 4, 5, 6, 7, 8, 9, 10]) (isR := []) (ps := [0, 1, 2, 3, 4, 5, 6, 7, 8, 9, 10]) (As := [.int (nI w), .int (nI q)]) (rest := []) (m_sits l D cyI cyZ cyJ h a1 a2 a3 a4 a5 a6 a7 a8 a9 a10 mw1 mh1 ms1 mp1 ml1 mb1 mm1 md1 mc1 mhi1 msw1 mmi1 mhc1 ma1 mq1 mt1 w q hw (by rw [hm1, ru_s]; omega)) ⟨hx, hb, hown, hts⟩ gX3_throwsOut_X3_sits rfl ⟨rfl, by decide, by decide, by decide +kernel⟩ ⟨Nat.le_of_ble_eq_true rfl, Nat.le_of_ble_eq_true rfl⟩ ⟨rfl, rfl⟩ hml hl.1 hK hP hD hS hA ⟨rfl, rfl, rfl, rfl, rfl, rfl, rfl⟩ rfl ⟨rfl, rfl⟩ rfl rfl (Nat.le_of_ble_eq_true rfl) ⟨Nat.zero_le _, Nat.zero_le _⟩ dX3_throwsOut_95 (fun H locs hP hD hS => ?_)
      exact CtV.ret hQ hx hb hr hlk hK hP hD hS dX3_throwsOut_98 (congrArg (MDc cyI h a1 a2 a3 a4 a5 a6 a7 a8 a9 a10) (by unfold md_throws; dsimp only; rw [if_neg (by omega), if_pos c2, ← hv1]; rfl))
  · refine lv_aload_n hx hb dX3_throwsOut_33 rfl (lv_at hl 1 rfl) ?_
    refine lv_iload_n hx hb dX3_throwsOut_34 rfl (lv_at hl 2 rfl) ?_
    refine lv_iload_n hx hb dX3_throwsOut_35 rfl (lv_at hl 0 rfl) ?_
    refine CtV.callV (n := 2) (q0 := 0) (ci := 3) (wc := MDc cyI h a1 a2 a3 a4 a5 a6 a7 a8 a9 a10 (mw, mh, ms, mp, ru ml (16 * w + si) none, mb, mm, md, mc, mhi, msw, mmi, mhc, ma, mq, mt)) (wr := ([] : va_W)) (w1 := MDc cyI h a1 a2 a3 a4 a5 a6 a7 a8 a9 a10 ((md_goes w q (mw, mh, ms, mp, ru ml (16 * w + si) none, mb, mm, md, mc, mhi, msw, mmi, mhc, ma, mq, mt)).1, (md_goes w q (mw, mh, ms, mp, ru ml (16 * w + si) none, mb, mm, md, mc, mhi, msw, mmi, mhc, ma, mq, mt)).2.1, (md_goes w q (mw, mh, ms, mp, ru ml (16 * w + si) none, mb, mm, md, mc, mhi, msw, mmi, mhc, ma, mq, mt)).2.2.1, (md_goes w q (mw, mh, ms, mp, ru ml (16 * w + si) none, mb, mm, md, mc, mhi, msw, mmi, mhc, ma, mq, mt)).2.2.2.1, (md_goes w q (mw, mh, ms, mp, ru ml (16 * w + si) none, mb, mm, md, mc, mhi, msw, mmi, mhc, ma, mq, mt)).2.2.2.2.1, (md_goes w q (mw, mh, ms, mp, ru ml (16 * w + si) none, mb, mm, md, mc, mhi, msw, mmi, mhc, ma, mq, mt)).2.2.2.2.2.1, (md_goes w q (mw, mh, ms, mp, ru ml (16 * w + si) none, mb, mm, md, mc, mhi, msw, mmi, mhc, ma, mq, mt)).2.2.2.2.2.2.1, (md_goes w q (mw, mh, ms, mp, ru ml (16 * w + si) none, mb, mm, md, mc, mhi, msw, mmi, mhc, ma, mq, mt)).2.2.2.2.2.2.2.1, (md_goes w q (mw, mh, ms, mp, ru ml (16 * w + si) none, mb, mm, md, mc, mhi, msw, mmi, mhc, ma, mq, mt)).2.2.2.2.2.2.2.2.1, (md_goes w q (mw, mh, ms, mp, ru ml (16 * w + si) none, mb, mm, md, mc, mhi, msw, mmi, mhc, ma, mq, mt)).2.2.2.2.2.2.2.2.2.1, (md_goes w q (mw, mh, ms, mp, ru ml (16 * w + si) none, mb, mm, md, mc, mhi, msw, mmi, mhc, ma, mq, mt)).2.2.2.2.2.2.2.2.2.2.1, (md_goes w q (mw, mh, ms, mp, ru ml (16 * w + si) none, mb, mm, md, mc, mhi, msw, mmi, mhc, ma, mq, mt)).2.2.2.2.2.2.2.2.2.2.2.1, (md_goes w q (mw, mh, ms, mp, ru ml (16 * w + si) none, mb, mm, md, mc, mhi, msw, mmi, mhc, ma, mq, mt)).2.2.2.2.2.2.2.2.2.2.2.2.1, (md_goes w q (mw, mh, ms, mp, ru ml (16 * w + si) none, mb, mm, md, mc, mhi, msw, mmi, mhc, ma, mq, mt)).2.2.2.2.2.2.2.2.2.2.2.2.2.1, (md_goes w q (mw, mh, ms, mp, ru ml (16 * w + si) none, mb, mm, md, mc, mhi, msw, mmi, mhc, ma, mq, mt)).2.2.2.2.2.2.2.2.2.2.2.2.2.2.1, (md_goes w q (mw, mh, ms, mp, ru ml (16 * w + si) none, mb, mm, md, mc, mhi, msw, mmi, mhc, ma, mq, mt)).2.2.2.2.2.2.2.2.2.2.2.2.2.2.2)) (ws' := MDc cyI h a1 a2 a3 a4 a5 a6 a7 a8 a9 a10 ((md_goes w q (mw, mh, ms, mp, ru ml (16 * w + si) none, mb, mm, md, mc, mhi, msw, mmi, mhc, ma, mq, mt)).1, (md_goes w q (mw, mh, ms, mp, ru ml (16 * w + si) none, mb, mm, md, mc, mhi, msw, mmi, mhc, ma, mq, mt)).2.1, (md_goes w q (mw, mh, ms, mp, ru ml (16 * w + si) none, mb, mm, md, mc, mhi, msw, mmi, mhc, ma, mq, mt)).2.2.1, (md_goes w q (mw, mh, ms, mp, ru ml (16 * w + si) none, mb, mm, md, mc, mhi, msw, mmi, mhc, ma, mq, mt)).2.2.2.1, (md_goes w q (mw, mh, ms, mp, ru ml (16 * w + si) none, mb, mm, md, mc, mhi, msw, mmi, mhc, ma, mq, mt)).2.2.2.2.1, (md_goes w q (mw, mh, ms, mp, ru ml (16 * w + si) none, mb, mm, md, mc, mhi, msw, mmi, mhc, ma, mq, mt)).2.2.2.2.2.1, (md_goes w q (mw, mh, ms, mp, ru ml (16 * w + si) none, mb, mm, md, mc, mhi, msw, mmi, mhc, ma, mq, mt)).2.2.2.2.2.2.1, (md_goes w q (mw, mh, ms, mp, ru ml (16 * w + si) none, mb, mm, md, mc, mhi, msw, mmi, mhc, ma, mq, mt)).2.2.2.2.2.2.2.1, (md_goes w q (mw, mh, ms, mp, ru ml (16 * w + si) none, mb, mm, md, mc, mhi, msw, mmi, mhc, ma, mq, mt)).2.2.2.2.2.2.2.2.1, (md_goes w q (mw, mh, ms, mp, ru ml (16 * w + si) none, mb, mm, md, mc, mhi, msw, mmi, mhc, ma, mq, mt)).2.2.2.2.2.2.2.2.2.1, (md_goes w q (mw, mh, ms, mp, ru ml (16 * w + si) none, mb, mm, md, mc, mhi, msw, mmi, mhc, ma, mq, mt)).2.2.2.2.2.2.2.2.2.2.1, (md_goes w q (mw, mh, ms, mp, ru ml (16 * w + si) none, mb, mm, md, mc, mhi, msw, mmi, mhc, ma, mq, mt)).2.2.2.2.2.2.2.2.2.2.2.1, (md_goes w q (mw, mh, ms, mp, ru ml (16 * w + si) none, mb, mm, md, mc, mhi, msw, mmi, mhc, ma, mq, mt)).2.2.2.2.2.2.2.2.2.2.2.2.1, (md_goes w q (mw, mh, ms, mp, ru ml (16 * w + si) none, mb, mm, md, mc, mhi, msw, mmi, mhc, ma, mq, mt)).2.2.2.2.2.2.2.2.2.2.2.2.2.1, (md_goes w q (mw, mh, ms, mp, ru ml (16 * w + si) none, mb, mm, md, mc, mhi, msw, mmi, mhc, ma, mq, mt)).2.2.2.2.2.2.2.2.2.2.2.2.2.2.1, (md_goes w q (mw, mh, ms, mp, ru ml (16 * w + si) none, mb, mm, md, mc, mhi, msw, mmi, mhc, ma, mq, mt)).2.2.2.2.2.2.2.2.2.2.2.2.2.2.2)) (isC := [0, 1, 2, 3, 4, 5, 6, 7, 8, 9, 10]) (isR := []) (ps := [0, 1, 2, 3, 4, 5, 6, 7, 8, 9, 10]) (As := [.int (nI w), .int (nI q)]) (rest := []) (m_goes l D cyI cyZ cyJ h a1 a2 a3 a4 a5 a6 a7 a8 a9 a10 mw mh ms mp (ru ml (16 * w + si) none) mb mm md mc mhi msw mmi mhc ma mq mt w q hw hq) ⟨hx, hb, hown, hts⟩ gX3_throwsOut_X3_goesHome rfl ⟨rfl, by decide, by decide, by decide +kernel⟩ ⟨Nat.le_of_ble_eq_true rfl, Nat.le_of_ble_eq_true rfl⟩ ⟨rfl, rfl⟩ hml hl.1 hK hP hD hS hA ⟨rfl, rfl, rfl, rfl, rfl, rfl, rfl⟩ rfl ⟨rfl, rfl⟩ rfl rfl (Nat.le_of_ble_eq_true rfl) ⟨Nat.zero_le _, Nat.zero_le _⟩ dX3_throwsOut_36 (fun H locs hP hD hS => ?_)
    exact CtV.ret hQ hx hb hr hlk hK hP hD hS dX3_throwsOut_39 (congrArg (MDc cyI h a1 a2 a3 a4 a5 a6 a7 a8 a9 a10) (by unfold md_throws; dsimp only; rw [if_pos c1]))
abbrev rmX3_access : Room := { frames := 3, cells := 0, slots := 0, locals := 69 }
set_option maxRecDepth 100000 in
set_option maxHeartbeats 4000000 in
theorem m_acc (l : Launch) (D : va_G) (cyI cyZ cyJ : ClassId) (h a1 a2 a3 a4 a5 a6 a7 a8 a9 a10 : Nat) (mw : Nat → Int32) (mh : Nat → Int32) (ms : Nat → Nat) (mp : Nat → Nat) (ml : Nat → Option Nat) (mb : Nat → Nat) (mm : Nat → Nat) (md : Nat → Bool) (mc : Nat → Int32) (mhi : Int32) (msw : Int32) (mmi : Int32) (mhc : Int32) (ma : Nat → Nat) (mq : Nat) (mt : Nat) (w q : Nat) (hw : w < 2) (hb9 : md_bd w (mw, mh, ms, mp, ml, mb, mm, md, mc, mhi, msw, mmi, mhc, ma, mq, mt)) (hq : q < 256) : CtI l yX3_access wsX3_access rmX3_access D (T3 cyI cyZ cyJ) [.ref h, .int (nI w), .int (nI q)] (MDc cyI h a1 a2 a3 a4 a5 a6 a7 a8 a9 a10 (mw, mh, ms, mp, ml, mb, mm, md, mc, mhi, msw, mmi, mhc, ma, mq, mt)) (nI (md_what w q (mw, mh, ms, mp, ml, mb, mm, md, mc, mhi, msw, mmi, mhc, ma, mq, mt))) (MDc cyI h a1 a2 a3 a4 a5 a6 a7 a8 a9 a10 (md_acc w q (mw, mh, ms, mp, ml, mb, mm, md, mc, mhi, msw, mmi, mhc, ma, mq, mt))) := by
  refine CtI.of (cc := cX3_access) (maxL := 6) (ret := (some .int)) (lv0 := [(0, .ref h), (1, .int (nI w)), (2, .int (nI q))]) (by decide) rfl (Nat.le_of_ble_eq_true rfl) rfl ?_
  intro p e s m below meth c A ls args Q hx hb hml hr hlk hts hown hK hP hA hD hS hl hQ
  have hown : s.vm.findClass RX3 = some m.cls := hown
  have hi_RX3 : ∀ w ∈ wsX30, w ∈ wsX3_access := by decide +kernel
  have hf_16 := hts (.fieldLink RX3 16 "OutcastBenchModel" "sets" "[I") (by decide +kernel)
  have hf_22 := hts (.fieldLink RX3 22 "OutcastBenchModel" "lineOf" "[I") (by decide +kernel)
  have hf_34 := hts (.fieldLink RX3 34 "OutcastBenchModel" "cost" "[I") (by decide +kernel)
  have hb0 := hb9
  obtain ⟨hms, hmp, hmm, hml8, hmb8⟩ := hb0
  have hs16 := mod16 q hms
  refine lv_iload_n hx hb dX3_access_0 rfl (lv_at hl 2 rfl) ?_
  refine lv_aload_n hx hb dX3_access_1 rfl (lv_at hl 0 rfl) ?_
  refine va_get (D := D) (ci := 3) (v := .ref a3) (C := RX3) (T := TX3) (N := 16) hx hb hts hi_RX3 hown hK hP 0 rfl rfl 2 (by decide) hf_16 (fun _ h9 => h9) rfl dX3_access_2 ?_
  refine lv_iload_n hx hb dX3_access_5 rfl (lv_at hl 1 rfl) ?_
  refine mq_ld (k := w) nI ms hx hb hK hP 3 0 rfl rfl (by omega) (Nat.le_of_ble_eq_true rfl) dX3_access_6 ?_
  refine mq_irem (x := q) (y := (ms w)) (by omega) (by omega) (by omega) hx hb dX3_access_7 ?_
  refine lv_istore_n (lv' := [(3, .int (nI (q % (ms w)))), (0, .ref h), (1, .int (nI w)), (2, .int (nI q))]) hx hb dX3_access_8 rfl hl (by decide) rfl (fun ls hl => ?_)
  refine lv_aload_n hx hb dX3_access_9 rfl (lv_at hl 1 rfl) ?_
  refine va_get (D := D) (ci := 3) (v := .ref a5) (C := RX3) (T := TX3) (N := 16) hx hb hts hi_RX3 hown hK hP 0 rfl rfl 4 (by decide) hf_22 (fun _ h9 => h9) rfl dX3_access_10 ?_
  refine lv_bipush (v := nI 16) hx hb dX3_access_13 (by decide) ?_
  refine lv_iload_n hx hb dX3_access_15 rfl (lv_at hl 2 rfl) ?_
  refine mq_imul (x := 16) (y := w) hx hb dX3_access_16 ?_
  refine lv_iload_n hx hb dX3_access_17 rfl (lv_at hl 0 rfl) ?_
  refine mq_iadd (x := (16 * w)) (y := (q % (ms w))) hx hb dX3_access_18 ?_
  refine mq_ld (k := (16 * w + (q % (ms w)))) oI ml hx hb hK hP 5 0 rfl rfl (by omega) (Nat.le_of_ble_eq_true rfl) dX3_access_19 ?_
  rcases hls : ml (16 * w + q % ms w) with _ | r
  · refine lv_istore (lv' := [(4, .int (oI none)), (3, .int (nI (q % (ms w)))), (0, .ref h), (1, .int (nI w)), (2, .int (nI q))]) hx hb dX3_access_20 hl (by decide) rfl (fun ls hl => ?_)
    refine lv_aload_n hx hb dX3_access_22 rfl (lv_at hl 2 rfl) ?_
    refine lv_iload_n hx hb dX3_access_23 rfl (lv_at hl 3 rfl) ?_
    refine lv_iload_n hx hb dX3_access_24 rfl (lv_at hl 4 rfl) ?_
    refine CtI.callV (n := 2) (q0 := 0) (ci := 3) (wc := MDc cyI h a1 a2 a3 a4 a5 a6 a7 a8 a9 a10 (mw, mh, ms, mp, ml, mb, mm, md, mc, mhi, msw, mmi, mhc, ma, mq, mt)) (wr := ([] : va_W)) (w1 := MDc cyI h a1 a2 a3 a4 a5 a6 a7 a8 a9 a10 (mw, mh, ms, mp, ml, mb, mm, md, mc, mhi, msw, mmi, mhc, ma, mq, mt)) (ws' := MDc cyI h a1 a2 a3 a4 a5 a6 a7 a8 a9 a10 (mw, mh, ms, mp, ml, mb, mm, md, mc, mhi, msw, mmi, mhc, ma, mq, mt)) (isC := [0, 1, 2, 3, 4, 5, 6, 7, 8, 9, 10]) (isR := []) (ps := [0, 1, 2, 3, 4, 5, 6, 7, 8, 9, 10]) (As := [.int (nI w), .int (nI q)]) (rest := []) (m_seat l D cyI cyZ cyJ h a1 a2 a3 a4 a5 a6 a7 a8 a9 a10 mw mh ms mp ml mb mm md mc mhi msw mmi mhc ma mq mt w q hw (by omega) hmb8 hq) ⟨hx, hb, hown, hts⟩ gX3_access_X3_seat rfl ⟨rfl, by decide, by decide, by decide +kernel⟩ ⟨Nat.le_of_ble_eq_true rfl, Nat.le_of_ble_eq_true rfl⟩ ⟨rfl, rfl⟩ hml hl.1 hK hP hD hS hA ⟨rfl, rfl, rfl, rfl, rfl, rfl, rfl⟩ rfl ⟨rfl, rfl⟩ rfl rfl (Nat.le_of_ble_eq_true rfl) ⟨Nat.zero_le _, Nat.zero_le _⟩ dX3_access_25 (fun H locs hP hD hS => ?_)
    refine lv_istore (lv' := [(5, .int (oI (fnd (fun k => decide (mb (8 * w + k) = q)) (mm w)))), (4, .int (oI none)), (3, .int (nI (q % (ms w)))), (0, .ref h), (1, .int (nI w)), (2, .int (nI q))]) hx hb dX3_access_28 hl (by decide) rfl (fun ls hl => ?_)
    refine lv_iload hx hb dX3_access_30 (lv_at hl 1 rfl) ?_
    refine lv_iload_n hx hb dX3_access_32 rfl (lv_at hl 5 rfl) ?_
    refine lv_icmp_ne (x := oI none) (y := nI q) (tgt := 48) hx hb dX3_access_33 (by decide) (fun c1 => ?_) (fun c1 => ?_)
    · rcases hse : fnd (fun k => decide (mb (8 * w + k) = q)) (mm w) with _ | k
      · rw [hse] at hl
        refine lv_iload hx hb dX3_access_48 (lv_at hl 0 rfl) ?_
        refine lv_if_lt (x := oI none) (tgt := 85) hx hb dX3_access_50 (by decide) (fun c3 => ?_) (fun c3 => ?_)
        · refine lv_aload_n hx hb dX3_access_85 rfl (lv_at hl 3 rfl) ?_
          refine va_get (D := D) (ci := 3) (v := .ref a9) (C := RX3) (T := TX3) (N := 16) hx hb hts hi_RX3 hown hK hP 0 rfl rfl 8 (by decide) hf_34 (fun _ h9 => h9) rfl dX3_access_86 ?_
          refine lv_iload_n hx hb dX3_access_89 rfl (lv_at hl 4 rfl) ?_
          refine lv_dup2_11 hx hb dX3_access_90 rfl rfl ?_
          refine mq_ldR (k := w) mc hx hb hK hP 9 0 rfl rfl (by omega) (Nat.le_of_ble_eq_true rfl) dX3_access_91 ?_
          refine lv_bipush (v := nI 20) hx hb dX3_access_92 (by decide) ?_
          refine lv_iadd (x := mc w) (y := 20) hx hb dX3_access_94 ?_
          refine mq_stR (k := w) mc (mc w + 20) (ws' := MDc cyI h a1 a2 a3 a4 a5 a6 a7 a8 a9 a10 (mw, mh, ms, mp, ml, mb, mm, md, ru mc w (mc w + 20), mhi, msw, mmi, mhc, ma, mq, mt)) hx hb hK hP hD hS 9 0 rfl rfl (by omega) (Nat.le_of_ble_eq_true rfl) dX3_access_95 rfl (fun H locs hP hD hS => ?_)
          refine lv_iload hx hb dX3_access_96 (lv_at hl 1 rfl) ?_
          refine lv_if_lt (x := oI none) (tgt := 107) hx hb dX3_access_98 (by decide) (fun c4 => ?_) (fun c4 => ?_)
          · refine lv_aload_n hx hb dX3_access_107 rfl (lv_at hl 3 rfl) ?_
            refine va_get (D := D) (ci := 3) (v := .ref a5) (C := RX3) (T := TX3) (N := 16) hx hb hts hi_RX3 hown hK hP 0 rfl rfl 4 (by decide) hf_22 (fun _ h9 => h9) rfl dX3_access_108 ?_
            refine lv_bipush (v := nI 16) hx hb dX3_access_111 (by decide) ?_
            refine lv_iload_n hx hb dX3_access_113 rfl (lv_at hl 4 rfl) ?_
            refine mq_imul (x := 16) (y := w) hx hb dX3_access_114 ?_
            refine lv_iload_n hx hb dX3_access_115 rfl (lv_at hl 2 rfl) ?_
            refine mq_iadd (x := (16 * w)) (y := (q % (ms w))) hx hb dX3_access_116 ?_
            refine lv_iload_n hx hb dX3_access_117 rfl (lv_at hl 5 rfl) ?_
            refine mq_st (k := (16 * w + (q % (ms w)))) oI ml (some q) (ws' := MDc cyI h a1 a2 a3 a4 a5 a6 a7 a8 a9 a10 (mw, mh, ms, mp, ru ml (16 * w + (q % (ms w))) (some q), mb, mm, md, ru mc w (mc w + 20), mhi, msw, mmi, mhc, ma, mq, mt)) hx hb hK hP hD hS 5 0 rfl rfl (by omega) (Nat.le_of_ble_eq_true rfl) dX3_access_118 rfl (fun H locs hP hD hS => ?_)
            refine lv_iload hx hb dX3_access_119 (lv_at hl 0 rfl) ?_
            refine lv_if_lt (x := oI none) (tgt := 128) hx hb dX3_access_121 (by decide) (fun c9 => ?_) (fun c9 => ?_)
            · refine lv_iconst (v := nI 2) hx hb dX3_access_128 (by decide) ?_
              exact CtI.ret hQ hx hb hr hlk hK hP hD hS dX3_access_129 (by unfold md_what; dsimp only; rw [if_neg (by rw [hls]; simp), hse]; rfl) (congrArg (MDc cyI h a1 a2 a3 a4 a5 a6 a7 a8 a9 a10) (by unfold md_acc; dsimp only; rw [hls, hse]; rfl))
            · exact absurd (show oI none < 0 by decide) c9
          · exact absurd (show oI none < 0 by decide) c4
        · exact absurd (show oI none < 0 by decide) c3
      · rw [hse] at hl
        obtain ⟨hkn, hkq, -⟩ := fnd_of_some hse
        refine lv_iload hx hb dX3_access_48 (lv_at hl 0 rfl) ?_
        refine lv_if_lt (x := nI k) (tgt := 85) hx hb dX3_access_50 (by decide) (fun c3 => ?_) (fun c3 => ?_)
        · exact absurd c3 (nI_pos (by omega))
        · refine lv_aload_n hx hb dX3_access_53 rfl (lv_at hl 3 rfl) ?_
          refine va_get (D := D) (ci := 3) (v := .ref a9) (C := RX3) (T := TX3) (N := 16) hx hb hts hi_RX3 hown hK hP 0 rfl rfl 8 (by decide) hf_34 (fun _ h9 => h9) rfl dX3_access_54 ?_
          refine lv_iload_n hx hb dX3_access_57 rfl (lv_at hl 4 rfl) ?_
          refine lv_dup2_11 hx hb dX3_access_58 rfl rfl ?_
          refine mq_ldR (k := w) mc hx hb hK hP 9 0 rfl rfl (by omega) (Nat.le_of_ble_eq_true rfl) dX3_access_59 ?_
          refine lv_iconst (v := nI 3) hx hb dX3_access_60 (by decide) ?_
          refine lv_iadd (x := mc w) (y := 3) hx hb dX3_access_61 ?_
          refine mq_stR (k := w) mc (mc w + 3) (ws' := MDc cyI h a1 a2 a3 a4 a5 a6 a7 a8 a9 a10 (mw, mh, ms, mp, ml, mb, mm, md, ru mc w (mc w + 3), mhi, msw, mmi, mhc, ma, mq, mt)) hx hb hK hP hD hS 9 0 rfl rfl (by omega) (Nat.le_of_ble_eq_true rfl) dX3_access_62 rfl (fun H locs hP hD hS => ?_)
          refine lv_aload_n hx hb dX3_access_63 rfl (lv_at hl 3 rfl) ?_
          refine lv_iload_n hx hb dX3_access_64 rfl (lv_at hl 4 rfl) ?_
          refine lv_iload hx hb dX3_access_65 (lv_at hl 0 rfl) ?_
          refine CtV.callV (n := 2) (q0 := 0) (ci := 3) (wc := MDc cyI h a1 a2 a3 a4 a5 a6 a7 a8 a9 a10 (mw, mh, ms, mp, ml, mb, mm, md, ru mc w (mc w + 3), mhi, msw, mmi, mhc, ma, mq, mt)) (wr := ([] : va_W)) (w1 := MDc cyI h a1 a2 a3 a4 a5 a6 a7 a8 a9 a10 (mw, mh, ms, mp, ml, shl mb (8 * w + k) (8 * w + (mm w - 1)), ru mm w (mm w - 1), md, ru mc w (mc w + 3), mhi, msw, mmi, mhc, ma, mq, mt)) (ws' := MDc cyI h a1 a2 a3 a4 a5 a6 a7 a8 a9 a10 (mw, mh, ms, mp, ml, shl mb (8 * w + k) (8 * w + (mm w - 1)), ru mm w (mm w - 1), md, ru mc w (mc w + 3), mhi, msw, mmi, mhc, ma, mq, mt)) (isC := [0, 1, 2, 3, 4, 5, 6, 7, 8, 9, 10]) (isR := []) (ps := [0, 1, 2, 3, 4, 5, 6, 7, 8, 9, 10]) (As := [.int (nI w), .int (nI k)]) (rest := []) (m_leaves l D cyI cyZ cyJ h a1 a2 a3 a4 a5 a6 a7 a8 a9 a10 mw mh ms mp ml mb mm md (ru mc w (mc w + 3)) mhi msw mmi mhc ma mq mt w k hw hkn (by omega)) ⟨hx, hb, hown, hts⟩ gX3_access_X3_leavesBench rfl ⟨rfl, by decide, by decide, by decide +kernel⟩ ⟨Nat.le_of_ble_eq_true rfl, Nat.le_of_ble_eq_true rfl⟩ ⟨rfl, rfl⟩ hml hl.1 hK hP hD hS hA ⟨rfl, rfl, rfl, rfl, rfl, rfl, rfl⟩ rfl ⟨rfl, rfl⟩ rfl rfl (Nat.le_of_ble_eq_true rfl) ⟨Nat.zero_le _, Nat.zero_le _⟩ dX3_access_67 (fun H locs hP hD hS => ?_)
          refine lv_iload hx hb dX3_access_70 (lv_at hl 1 rfl) ?_
          refine lv_if_lt (x := oI none) (tgt := 107) hx hb dX3_access_72 (by decide) (fun c4 => ?_) (fun c4 => ?_)
          · refine lv_aload_n hx hb dX3_access_107 rfl (lv_at hl 3 rfl) ?_
            refine va_get (D := D) (ci := 3) (v := .ref a5) (C := RX3) (T := TX3) (N := 16) hx hb hts hi_RX3 hown hK hP 0 rfl rfl 4 (by decide) hf_22 (fun _ h9 => h9) rfl dX3_access_108 ?_
            refine lv_bipush (v := nI 16) hx hb dX3_access_111 (by decide) ?_
            refine lv_iload_n hx hb dX3_access_113 rfl (lv_at hl 4 rfl) ?_
            refine mq_imul (x := 16) (y := w) hx hb dX3_access_114 ?_
            refine lv_iload_n hx hb dX3_access_115 rfl (lv_at hl 2 rfl) ?_
            refine mq_iadd (x := (16 * w)) (y := (q % (ms w))) hx hb dX3_access_116 ?_
            refine lv_iload_n hx hb dX3_access_117 rfl (lv_at hl 5 rfl) ?_
            refine mq_st (k := (16 * w + (q % (ms w)))) oI ml (some q) (ws' := MDc cyI h a1 a2 a3 a4 a5 a6 a7 a8 a9 a10 (mw, mh, ms, mp, ru ml (16 * w + (q % (ms w))) (some q), shl mb (8 * w + k) (8 * w + (mm w - 1)), ru mm w (mm w - 1), md, ru mc w (mc w + 3), mhi, msw, mmi, mhc, ma, mq, mt)) hx hb hK hP hD hS 5 0 rfl rfl (by omega) (Nat.le_of_ble_eq_true rfl) dX3_access_118 rfl (fun H locs hP hD hS => ?_)
            refine lv_iload hx hb dX3_access_119 (lv_at hl 0 rfl) ?_
            refine lv_if_lt (x := nI k) (tgt := 128) hx hb dX3_access_121 (by decide) (fun c9 => ?_) (fun c9 => ?_)
            · exact absurd c9 (nI_pos (by omega))
            · refine lv_iconst (v := nI 1) hx hb dX3_access_124 (by decide) ?_
              refine lv_goto (tgt := 129) hx hb dX3_access_125 (by decide) ?_
              exact CtI.ret hQ hx hb hr hlk hK hP hD hS dX3_access_129 (by unfold md_what; dsimp only; rw [if_neg (by rw [hls]; simp), hse]; rfl) (congrArg (MDc cyI h a1 a2 a3 a4 a5 a6 a7 a8 a9 a10) (by unfold md_acc; dsimp only; rw [hls, hse]; rfl))
          · exact absurd (show oI none < 0 by decide) c4
    · exact absurd (show nI q = -1 by first | exact c1.symm | (by_cases hh : oI none = nI q; exact hh.symm; exact absurd hh c1)) (nI_m1 (by omega))
  · have hr8 : r < 256 := hml8 _ r hs16 hls
    refine lv_istore (lv' := [(4, .int (nI r)), (3, .int (nI (q % (ms w)))), (0, .ref h), (1, .int (nI w)), (2, .int (nI q))]) hx hb dX3_access_20 hl (by decide) rfl (fun ls hl => ?_)
    refine lv_aload_n hx hb dX3_access_22 rfl (lv_at hl 2 rfl) ?_
    refine lv_iload_n hx hb dX3_access_23 rfl (lv_at hl 3 rfl) ?_
    refine lv_iload_n hx hb dX3_access_24 rfl (lv_at hl 4 rfl) ?_
    refine CtI.callV (n := 2) (q0 := 0) (ci := 3) (wc := MDc cyI h a1 a2 a3 a4 a5 a6 a7 a8 a9 a10 (mw, mh, ms, mp, ml, mb, mm, md, mc, mhi, msw, mmi, mhc, ma, mq, mt)) (wr := ([] : va_W)) (w1 := MDc cyI h a1 a2 a3 a4 a5 a6 a7 a8 a9 a10 (mw, mh, ms, mp, ml, mb, mm, md, mc, mhi, msw, mmi, mhc, ma, mq, mt)) (ws' := MDc cyI h a1 a2 a3 a4 a5 a6 a7 a8 a9 a10 (mw, mh, ms, mp, ml, mb, mm, md, mc, mhi, msw, mmi, mhc, ma, mq, mt)) (isC := [0, 1, 2, 3, 4, 5, 6, 7, 8, 9, 10]) (isR := []) (ps := [0, 1, 2, 3, 4, 5, 6, 7, 8, 9, 10]) (As := [.int (nI w), .int (nI q)]) (rest := []) (m_seat l D cyI cyZ cyJ h a1 a2 a3 a4 a5 a6 a7 a8 a9 a10 mw mh ms mp ml mb mm md mc mhi msw mmi mhc ma mq mt w q hw (by omega) hmb8 hq) ⟨hx, hb, hown, hts⟩ gX3_access_X3_seat rfl ⟨rfl, by decide, by decide, by decide +kernel⟩ ⟨Nat.le_of_ble_eq_true rfl, Nat.le_of_ble_eq_true rfl⟩ ⟨rfl, rfl⟩ hml hl.1 hK hP hD hS hA ⟨rfl, rfl, rfl, rfl, rfl, rfl, rfl⟩ rfl ⟨rfl, rfl⟩ rfl rfl (Nat.le_of_ble_eq_true rfl) ⟨Nat.zero_le _, Nat.zero_le _⟩ dX3_access_25 (fun H locs hP hD hS => ?_)
    refine lv_istore (lv' := [(5, .int (oI (fnd (fun k => decide (mb (8 * w + k) = q)) (mm w)))), (4, .int (nI r)), (3, .int (nI (q % (ms w)))), (0, .ref h), (1, .int (nI w)), (2, .int (nI q))]) hx hb dX3_access_28 hl (by decide) rfl (fun ls hl => ?_)
    refine lv_iload hx hb dX3_access_30 (lv_at hl 1 rfl) ?_
    refine lv_iload_n hx hb dX3_access_32 rfl (lv_at hl 5 rfl) ?_
    refine mq_ne (x := r) (y := q) (tgt := 48) (by omega) (by omega) hx hb dX3_access_33 (by decide) (fun c1 => ?_) (fun c1 => ?_)
    · rcases hse : fnd (fun k => decide (mb (8 * w + k) = q)) (mm w) with _ | k
      · rw [hse] at hl
        refine lv_iload hx hb dX3_access_48 (lv_at hl 0 rfl) ?_
        refine lv_if_lt (x := oI none) (tgt := 85) hx hb dX3_access_50 (by decide) (fun c3 => ?_) (fun c3 => ?_)
        · refine lv_aload_n hx hb dX3_access_85 rfl (lv_at hl 3 rfl) ?_
          refine va_get (D := D) (ci := 3) (v := .ref a9) (C := RX3) (T := TX3) (N := 16) hx hb hts hi_RX3 hown hK hP 0 rfl rfl 8 (by decide) hf_34 (fun _ h9 => h9) rfl dX3_access_86 ?_
          refine lv_iload_n hx hb dX3_access_89 rfl (lv_at hl 4 rfl) ?_
          refine lv_dup2_11 hx hb dX3_access_90 rfl rfl ?_
          refine mq_ldR (k := w) mc hx hb hK hP 9 0 rfl rfl (by omega) (Nat.le_of_ble_eq_true rfl) dX3_access_91 ?_
          refine lv_bipush (v := nI 20) hx hb dX3_access_92 (by decide) ?_
          refine lv_iadd (x := mc w) (y := 20) hx hb dX3_access_94 ?_
          refine mq_stR (k := w) mc (mc w + 20) (ws' := MDc cyI h a1 a2 a3 a4 a5 a6 a7 a8 a9 a10 (mw, mh, ms, mp, ml, mb, mm, md, ru mc w (mc w + 20), mhi, msw, mmi, mhc, ma, mq, mt)) hx hb hK hP hD hS 9 0 rfl rfl (by omega) (Nat.le_of_ble_eq_true rfl) dX3_access_95 rfl (fun H locs hP hD hS => ?_)
          refine lv_iload hx hb dX3_access_96 (lv_at hl 1 rfl) ?_
          refine lv_if_lt (x := nI r) (tgt := 107) hx hb dX3_access_98 (by decide) (fun c4 => ?_) (fun c4 => ?_)
          · exact absurd c4 (nI_pos (by omega))
          · refine lv_aload_n hx hb dX3_access_101 rfl (lv_at hl 3 rfl) ?_
            refine lv_iload_n hx hb dX3_access_102 rfl (lv_at hl 4 rfl) ?_
            refine lv_iload_n hx hb dX3_access_103 rfl (lv_at hl 2 rfl) ?_
            obtain ⟨⟨mw1, mh1, ms1, mp1, ml1, mb1, mm1, md1, mc1, mhi1, msw1, mmi1, mhc1, ma1, mq1, mt1⟩, hv1⟩ : ∃ z : MDu, z = md_throws w (q % ms w) r (mw, mh, ms, mp, ml, mb, mm, md, ru mc w (mc w + 20), mhi, msw, mmi, mhc, ma, mq, mt) := ⟨_, rfl⟩
            have hT := m_throws l D cyI cyZ cyJ h a1 a2 a3 a4 a5 a6 a7 a8 a9 a10 mw mh ms mp ml mb mm md (ru mc w (mc w + 20)) mhi msw mmi mhc ma mq mt w (q % ms w) r hw hs16 hls hr8 hb9
            rw [← hv1] at hT
            refine CtV.callV (n := 2) (q0 := 0) (ci := 3) (wc := MDc cyI h a1 a2 a3 a4 a5 a6 a7 a8 a9 a10 (mw, mh, ms, mp, ml, mb, mm, md, ru mc w (mc w + 20), mhi, msw, mmi, mhc, ma, mq, mt)) (wr := ([] : va_W)) (w1 := MDc cyI h a1 a2 a3 a4 a5 a6 a7 a8 a9 a10 (mw1, mh1, ms1, mp1, ml1, mb1, mm1, md1, mc1, mhi1, msw1, mmi1, mhc1, ma1, mq1, mt1)) (ws' := MDc cyI h a1 a2 a3 a4 a5 a6 a7 a8 a9 a10 (mw1, mh1, ms1, mp1, ml1, mb1, mm1, md1, mc1, mhi1, msw1, mmi1, mhc1, ma1, mq1, mt1)) (isC := [0, 1, 2, 3, 4, 5, 6, 7, 8, 9, 10]) (isR := []) (ps := [0, 1, 2, 3, 4, 5, 6, 7, 8, 9, 10]) (As := [.int (nI w), .int (nI (q % (ms w)))]) (rest := []) (hT) ⟨hx, hb, hown, hts⟩ gX3_access_X3_throwsOut rfl ⟨rfl, by decide, by decide, by decide +kernel⟩ ⟨Nat.le_of_ble_eq_true rfl, Nat.le_of_ble_eq_true rfl⟩ ⟨rfl, rfl⟩ hml hl.1 hK hP hD hS hA ⟨rfl, rfl, rfl, rfl, rfl, rfl, rfl⟩ rfl ⟨rfl, rfl⟩ rfl rfl (Nat.le_of_ble_eq_true rfl) ⟨Nat.zero_le _, Nat.zero_le _⟩ dX3_access_104 (fun H locs hP hD hS => ?_)
            refine lv_aload_n hx hb dX3_access_107 rfl (lv_at hl 3 rfl) ?_
            refine va_get (D := D) (ci := 3) (v := .ref a5) (C := RX3) (T := TX3) (N := 16) hx hb hts hi_RX3 hown hK hP 0 rfl rfl 4 (by decide) hf_22 (fun _ h9 => h9) rfl dX3_access_108 ?_
            refine lv_bipush (v := nI 16) hx hb dX3_access_111 (by decide) ?_
            refine lv_iload_n hx hb dX3_access_113 rfl (lv_at hl 4 rfl) ?_
            refine mq_imul (x := 16) (y := w) hx hb dX3_access_114 ?_
            refine lv_iload_n hx hb dX3_access_115 rfl (lv_at hl 2 rfl) ?_
            refine mq_iadd (x := (16 * w)) (y := (q % (ms w))) hx hb dX3_access_116 ?_
            refine lv_iload_n hx hb dX3_access_117 rfl (lv_at hl 5 rfl) ?_
            refine mq_st (k := (16 * w + (q % (ms w)))) oI ml1 (some q) (ws' := MDc cyI h a1 a2 a3 a4 a5 a6 a7 a8 a9 a10 (mw1, mh1, ms1, mp1, ru ml1 (16 * w + (q % (ms w))) (some q), mb1, mm1, md1, mc1, mhi1, msw1, mmi1, mhc1, ma1, mq1, mt1)) hx hb hK hP hD hS 5 0 rfl rfl (by omega) (Nat.le_of_ble_eq_true rfl) dX3_access_118 rfl (fun H locs hP hD hS => ?_)
            refine lv_iload hx hb dX3_access_119 (lv_at hl 0 rfl) ?_
            refine lv_if_lt (x := oI none) (tgt := 128) hx hb dX3_access_121 (by decide) (fun c9 => ?_) (fun c9 => ?_)
            · refine lv_iconst (v := nI 2) hx hb dX3_access_128 (by decide) ?_
              exact CtI.ret hQ hx hb hr hlk hK hP hD hS dX3_access_129 (by unfold md_what; dsimp only; rw [if_neg (by rw [hls]; simpa using c1), hse]; rfl) (congrArg (MDc cyI h a1 a2 a3 a4 a5 a6 a7 a8 a9 a10) (by unfold md_acc; dsimp only; rw [hls]; dsimp only; rw [if_neg c1, hse]; show _ = md_put w (q % ms w) q (md_throws w (q % ms w) r (mw, mh, ms, mp, ml, mb, mm, md, ru mc w (mc w + 20), mhi, msw, mmi, mhc, ma, mq, mt)); rw [← hv1]; rfl))
            · exact absurd (show oI none < 0 by decide) c9
        · exact absurd (show oI none < 0 by decide) c3
      · rw [hse] at hl
        obtain ⟨hkn, hkq, -⟩ := fnd_of_some hse
        refine lv_iload hx hb dX3_access_48 (lv_at hl 0 rfl) ?_
        refine lv_if_lt (x := nI k) (tgt := 85) hx hb dX3_access_50 (by decide) (fun c3 => ?_) (fun c3 => ?_)
        · exact absurd c3 (nI_pos (by omega))
        · refine lv_aload_n hx hb dX3_access_53 rfl (lv_at hl 3 rfl) ?_
          refine va_get (D := D) (ci := 3) (v := .ref a9) (C := RX3) (T := TX3) (N := 16) hx hb hts hi_RX3 hown hK hP 0 rfl rfl 8 (by decide) hf_34 (fun _ h9 => h9) rfl dX3_access_54 ?_
          refine lv_iload_n hx hb dX3_access_57 rfl (lv_at hl 4 rfl) ?_
          refine lv_dup2_11 hx hb dX3_access_58 rfl rfl ?_
          refine mq_ldR (k := w) mc hx hb hK hP 9 0 rfl rfl (by omega) (Nat.le_of_ble_eq_true rfl) dX3_access_59 ?_
          refine lv_iconst (v := nI 3) hx hb dX3_access_60 (by decide) ?_
          refine lv_iadd (x := mc w) (y := 3) hx hb dX3_access_61 ?_
          refine mq_stR (k := w) mc (mc w + 3) (ws' := MDc cyI h a1 a2 a3 a4 a5 a6 a7 a8 a9 a10 (mw, mh, ms, mp, ml, mb, mm, md, ru mc w (mc w + 3), mhi, msw, mmi, mhc, ma, mq, mt)) hx hb hK hP hD hS 9 0 rfl rfl (by omega) (Nat.le_of_ble_eq_true rfl) dX3_access_62 rfl (fun H locs hP hD hS => ?_)
          refine lv_aload_n hx hb dX3_access_63 rfl (lv_at hl 3 rfl) ?_
          refine lv_iload_n hx hb dX3_access_64 rfl (lv_at hl 4 rfl) ?_
          refine lv_iload hx hb dX3_access_65 (lv_at hl 0 rfl) ?_
          refine CtV.callV (n := 2) (q0 := 0) (ci := 3) (wc := MDc cyI h a1 a2 a3 a4 a5 a6 a7 a8 a9 a10 (mw, mh, ms, mp, ml, mb, mm, md, ru mc w (mc w + 3), mhi, msw, mmi, mhc, ma, mq, mt)) (wr := ([] : va_W)) (w1 := MDc cyI h a1 a2 a3 a4 a5 a6 a7 a8 a9 a10 (mw, mh, ms, mp, ml, shl mb (8 * w + k) (8 * w + (mm w - 1)), ru mm w (mm w - 1), md, ru mc w (mc w + 3), mhi, msw, mmi, mhc, ma, mq, mt)) (ws' := MDc cyI h a1 a2 a3 a4 a5 a6 a7 a8 a9 a10 (mw, mh, ms, mp, ml, shl mb (8 * w + k) (8 * w + (mm w - 1)), ru mm w (mm w - 1), md, ru mc w (mc w + 3), mhi, msw, mmi, mhc, ma, mq, mt)) (isC := [0, 1, 2, 3, 4, 5, 6, 7, 8, 9, 10]) (isR := []) (ps := [0, 1, 2, 3, 4, 5, 6, 7, 8, 9, 10]) (As := [.int (nI w), .int (nI k)]) (rest := []) (m_leaves l D cyI cyZ cyJ h a1 a2 a3 a4 a5 a6 a7 a8 a9 a10 mw mh ms mp ml mb mm md (ru mc w (mc w + 3)) mhi msw mmi mhc ma mq mt w k hw hkn (by omega)) ⟨hx, hb, hown, hts⟩ gX3_access_X3_leavesBench rfl ⟨rfl, by decide, by decide, by decide +kernel⟩ ⟨Nat.le_of_ble_eq_true rfl, Nat.le_of_ble_eq_true rfl⟩ ⟨rfl, rfl⟩ hml hl.1 hK hP hD hS hA ⟨rfl, rfl, rfl, rfl, rfl, rfl, rfl⟩ rfl ⟨rfl, rfl⟩ rfl rfl (Nat.le_of_ble_eq_true rfl) ⟨Nat.zero_le _, Nat.zero_le _⟩ dX3_access_67 (fun H locs hP hD hS => ?_)
          refine lv_iload hx hb dX3_access_70 (lv_at hl 1 rfl) ?_
          refine lv_if_lt (x := nI r) (tgt := 107) hx hb dX3_access_72 (by decide) (fun c4 => ?_) (fun c4 => ?_)
          · exact absurd c4 (nI_pos (by omega))
          · refine lv_aload_n hx hb dX3_access_75 rfl (lv_at hl 3 rfl) ?_
            refine lv_iload_n hx hb dX3_access_76 rfl (lv_at hl 4 rfl) ?_
            refine lv_iload hx hb dX3_access_77 (lv_at hl 1 rfl) ?_
            refine CtV.callV (n := 2) (q0 := 0) (ci := 3) (wc := MDc cyI h a1 a2 a3 a4 a5 a6 a7 a8 a9 a10 (mw, mh, ms, mp, ml, shl mb (8 * w + k) (8 * w + (mm w - 1)), ru mm w (mm w - 1), md, ru mc w (mc w + 3), mhi, msw, mmi, mhc, ma, mq, mt)) (wr := ([] : va_W)) (w1 := MDc cyI h a1 a2 a3 a4 a5 a6 a7 a8 a9 a10 (mw, mh, ms, mp, ml, ru (shr (shl mb (8 * w + k) (8 * w + (mm w - 1))) (8 * w) (8 * w + (ru mm w (mm w - 1)) w)) (8 * w) r, ru (ru mm w (mm w - 1)) w ((ru mm w (mm w - 1)) w + 1), md, ru mc w (mc w + 3), mhi, msw, mmi, mhc, ma, mq, mt)) (ws' := MDc cyI h a1 a2 a3 a4 a5 a6 a7 a8 a9 a10 (mw, mh, ms, mp, ml, ru (shr (shl mb (8 * w + k) (8 * w + (mm w - 1))) (8 * w) (8 * w + (ru mm w (mm w - 1)) w)) (8 * w) r, ru (ru mm w (mm w - 1)) w ((ru mm w (mm w - 1)) w + 1), md, ru mc w (mc w + 3), mhi, msw, mmi, mhc, ma, mq, mt)) (isC := [0, 1, 2, 3, 4, 5, 6, 7, 8, 9, 10]) (isR := []) (ps := [0, 1, 2, 3, 4, 5, 6, 7, 8, 9, 10]) (As := [.int (nI w), .int (nI r)]) (rest := []) (m_sits l D cyI cyZ cyJ h a1 a2 a3 a4 a5 a6 a7 a8 a9 a10 mw mh ms mp ml (shl mb (8 * w + k) (8 * w + (mm w - 1))) (ru mm w (mm w - 1)) md (ru mc w (mc w + 3)) mhi msw mmi mhc ma mq mt w r hw (by rw [ru_s]; omega)) ⟨hx, hb, hown, hts⟩ gX3_access_X3_sits rfl ⟨rfl, by decide, by decide, by decide +kernel⟩ ⟨Nat.le_of_ble_eq_true rfl, Nat.le_of_ble_eq_true rfl⟩ ⟨rfl, rfl⟩ hml hl.1 hK hP hD hS hA ⟨rfl, rfl, rfl, rfl, rfl, rfl, rfl⟩ rfl ⟨rfl, rfl⟩ rfl rfl (Nat.le_of_ble_eq_true rfl) ⟨Nat.zero_le _, Nat.zero_le _⟩ dX3_access_79 (fun H locs hP hD hS => ?_)
            refine lv_goto (tgt := 107) hx hb dX3_access_82 (by decide) ?_
            refine lv_aload_n hx hb dX3_access_107 rfl (lv_at hl 3 rfl) ?_
            refine va_get (D := D) (ci := 3) (v := .ref a5) (C := RX3) (T := TX3) (N := 16) hx hb hts hi_RX3 hown hK hP 0 rfl rfl 4 (by decide) hf_22 (fun _ h9 => h9) rfl dX3_access_108 ?_
            refine lv_bipush (v := nI 16) hx hb dX3_access_111 (by decide) ?_
            refine lv_iload_n hx hb dX3_access_113 rfl (lv_at hl 4 rfl) ?_
            refine mq_imul (x := 16) (y := w) hx hb dX3_access_114 ?_
            refine lv_iload_n hx hb dX3_access_115 rfl (lv_at hl 2 rfl) ?_
            refine mq_iadd (x := (16 * w)) (y := (q % (ms w))) hx hb dX3_access_116 ?_
            refine lv_iload_n hx hb dX3_access_117 rfl (lv_at hl 5 rfl) ?_
            refine mq_st (k := (16 * w + (q % (ms w)))) oI ml (some q) (ws' := MDc cyI h a1 a2 a3 a4 a5 a6 a7 a8 a9 a10 (mw, mh, ms, mp, ru ml (16 * w + (q % (ms w))) (some q), ru (shr (shl mb (8 * w + k) (8 * w + (mm w - 1))) (8 * w) (8 * w + (ru mm w (mm w - 1)) w)) (8 * w) r, ru (ru mm w (mm w - 1)) w ((ru mm w (mm w - 1)) w + 1), md, ru mc w (mc w + 3), mhi, msw, mmi, mhc, ma, mq, mt)) hx hb hK hP hD hS 5 0 rfl rfl (by omega) (Nat.le_of_ble_eq_true rfl) dX3_access_118 rfl (fun H locs hP hD hS => ?_)
            refine lv_iload hx hb dX3_access_119 (lv_at hl 0 rfl) ?_
            refine lv_if_lt (x := nI k) (tgt := 128) hx hb dX3_access_121 (by decide) (fun c9 => ?_) (fun c9 => ?_)
            · exact absurd c9 (nI_pos (by omega))
            · refine lv_iconst (v := nI 1) hx hb dX3_access_124 (by decide) ?_
              refine lv_goto (tgt := 129) hx hb dX3_access_125 (by decide) ?_
              exact CtI.ret hQ hx hb hr hlk hK hP hD hS dX3_access_129 (by unfold md_what; dsimp only; rw [if_neg (by rw [hls]; simpa using c1), hse]; rfl) (congrArg (MDc cyI h a1 a2 a3 a4 a5 a6 a7 a8 a9 a10) (by unfold md_acc; dsimp only; rw [hls]; dsimp only; rw [if_neg c1, hse]; rfl))
    · subst c1
      have hls2 := hls
      refine lv_aload_n hx hb dX3_access_36 rfl (lv_at hl 3 rfl) ?_
      refine va_get (D := D) (ci := 3) (v := .ref a9) (C := RX3) (T := TX3) (N := 16) hx hb hts hi_RX3 hown hK hP 0 rfl rfl 8 (by decide) hf_34 (fun _ h9 => h9) rfl dX3_access_37 ?_
      refine lv_iload_n hx hb dX3_access_40 rfl (lv_at hl 4 rfl) ?_
      refine lv_dup2_11 hx hb dX3_access_41 rfl rfl ?_
      refine mq_ldR (k := w) mc hx hb hK hP 9 0 rfl rfl (by omega) (Nat.le_of_ble_eq_true rfl) dX3_access_42 ?_
      refine lv_iconst (v := nI 1) hx hb dX3_access_43 (by decide) ?_
      refine lv_iadd (x := mc w) (y := 1) hx hb dX3_access_44 ?_
      refine mq_stR (k := w) mc (mc w + 1) (ws' := MDc cyI h a1 a2 a3 a4 a5 a6 a7 a8 a9 a10 (mw, mh, ms, mp, ml, mb, mm, md, ru mc w (mc w + 1), mhi, msw, mmi, mhc, ma, mq, mt)) hx hb hK hP hD hS 9 0 rfl rfl (by omega) (Nat.le_of_ble_eq_true rfl) dX3_access_45 rfl (fun H locs hP hD hS => ?_)
      refine lv_iconst (v := nI 0) hx hb dX3_access_46 (by decide) ?_
      exact CtI.ret hQ hx hb hr hlk hK hP hD hS dX3_access_47 (by unfold md_what; dsimp only; rw [if_pos hls]) (congrArg (MDc cyI h a1 a2 a3 a4 a5 a6 a7 a8 a9 a10) (by unfold md_acc; dsimp only; rw [hls]; dsimp only; rw [if_pos rfl]; rfl))

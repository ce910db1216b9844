abbrev rmX3_asks : Room := { frames := 4, cells := 0, slots := 0, locals := 94 }
set_option maxRecDepth 100000 in
set_option maxHeartbeats 4000000 in
theorem m_ask (l : Launch) (D : va_G) (cyI cyZ cyJ : ClassId) (h a1 a2 a3 a4 a5 a6 a7 a8 a9 a10 : Nat) (mw : Nat → Int32) (mh : Nat → Int32) (ms : Nat → Nat) (mp : Nat → Nat) (ml : Nat → Option Nat) (mb : Nat → Nat) (mm : Nat → Nat) (md : Nat → Bool) (mc : Nat → Int32) (mhi : Int32) (msw : Int32) (mmi : Int32) (mhc : Int32) (ma : Nat → Nat) (mq : Nat) (mt : Nat) (q : Nat) (b : Bool) (hb9 : md_bd 0 (mw, mh, ms, mp, ml, mb, mm, md, mc, mhi, msw, mmi, mhc, ma, mq, mt)) (hab : md_abd (mw, mh, ms, mp, ml, mb, mm, md, mc, mhi, msw, mmi, mhc, ma, mq, mt)) (hq : q < 256) : CtV l yX3_asks wsX3_asks rmX3_asks D (T3 cyI cyZ cyJ) [.ref h, .int (nI q), .int (bI b)] (MDc cyI h a1 a2 a3 a4 a5 a6 a7 a8 a9 a10 (mw, mh, ms, mp, ml, mb, mm, md, mc, mhi, msw, mmi, mhc, ma, mq, mt)) (MDc cyI h a1 a2 a3 a4 a5 a6 a7 a8 a9 a10 (md_ask q b (mw, mh, ms, mp, ml, mb, mm, md, mc, mhi, msw, mmi, mhc, ma, mq, mt))) := by
  refine CtV.of (cc := cX3_asks) (maxL := 5) (ret := none) (lv0 := [(0, .ref h), (1, .int (nI q)), (2, .int (bI b))]) (by decide) rfl (Nat.le_of_ble_eq_true rfl) rfl ?_
  intro p e s m below meth c A ls args Q hx hb hml hr hlk hts hown hK hP hA hD hS hl hQ
  have hown : s.vm.findClass RX3 = some m.cls := hown
  have hi_RX3 : ∀ w ∈ wsX30, w ∈ wsX3_asks := by decide +kernel
  have hf_31 := hts (.fieldLink RX3 31 "OutcastBenchModel" "isDirty" "[I") (by decide +kernel)
  have hf_37 := hts (.fieldLink RX3 37 "OutcastBenchModel" "asked" "[I") (by decide +kernel)
  have hf_74 := hts (.fieldLink RX3 74 "OutcastBenchModel" "hits" "I") (by decide +kernel)
  have hf_77 := hts (.fieldLink RX3 77 "OutcastBenchModel" "swaps" "I") (by decide +kernel)
  have hf_80 := hts (.fieldLink RX3 80 "OutcastBenchModel" "misses" "I") (by decide +kernel)
  have hf_83 := hts (.fieldLink RX3 83 "OutcastBenchModel" "askedMany" "I") (by decide +kernel)
  refine lv_aload_n hx hb dX3_asks_0 rfl (lv_at hl 0 rfl) ?_
  refine lv_iconst (v := nI 0) hx hb dX3_asks_1 (by decide) ?_
  refine lv_iload_n hx hb dX3_asks_2 rfl (lv_at hl 1 rfl) ?_
  obtain ⟨v, hvv⟩ : ∃ v : Nat, v = md_what 0 q (mw, mh, ms, mp, ml, mb, mm, md, mc, mhi, msw, mmi, mhc, ma, mq, mt) := ⟨_, rfl⟩
  have hv3 : v < 2 ^ 31 := by have h9 := md_what_3 0 q (mw, mh, ms, mp, ml, mb, mm, md, mc, mhi, msw, mmi, mhc, ma, mq, mt); rw [← hvv] at h9; omega
  obtain ⟨⟨mw1, mh1, ms1, mp1, ml1, mb1, mm1, md1, mc1, mhi1, msw1, mmi1, mhc1, ma1, mq1, mt1⟩, hv1⟩ : ∃ z : MDu, z = md_acc 0 q (mw, mh, ms, mp, ml, mb, mm, md, mc, mhi, msw, mmi, mhc, ma, mq, mt) := ⟨_, rfl⟩
  have hT := m_acc l D cyI cyZ cyJ h a1 a2 a3 a4 a5 a6 a7 a8 a9 a10 mw mh ms mp ml mb mm md mc mhi msw mmi mhc ma mq mt 0 q (by decide) hb9 hq
  rw [← hv1, ← hvv] at hT
  have hmq : mq1 ≤ 150 := by have h9 := (md_acc_asked (x := (mw, mh, ms, mp, ml, mb, mm, md, mc, mhi, msw, mmi, mhc, ma, mq, mt)) (w := 0) (q := q)).2; rw [← hv1] at h9; rw [show mq1 = mq from h9]; exact hab.1
  refine CtI.callV (n := 2) (q0 := 0) (ci := 3) (wc := MDc cyI h a1 a2 a3 a4 a5 a6 a7 a8 a9 a10 (mw, mh, ms, mp, ml, mb, mm, md, mc, mhi, msw, mmi, mhc, ma, mq, mt)) (wr := ([] : va_W)) (w1 := MDc cyI h a1 a2 a3 a4 a5 a6 a7 a8 a9 a10 (mw1, mh1, ms1, mp1, ml1, mb1, mm1, md1, mc1, mhi1, msw1, mmi1, mhc1, ma1, mq1, mt1)) (ws' := MDc cyI h a1 a2 a3 a4 a5 a6 a7 a8 a9 a10 (mw1, mh1, ms1, mp1, ml1, mb1, mm1, md1, mc1, mhi1, msw1, mmi1, mhc1, ma1, mq1, mt1)) (isC := [0, 1, 2, 3, 4, 5, 6, 7, 8, 9, 10]) (isR := []) (ps := [0, 1, 2, 3, 4, 5, 6, 7, 8, 9, 10]) (As := [.int (nI 0), .int (nI q)]) (rest := []) (hT) ⟨hx, hb, hown, hts⟩ gX3_asks_X3_access rfl ⟨rfl, by decide, by decide, by decide +kernel⟩ ⟨Nat.le_of_ble_eq_true rfl, Nat.le_of_ble_eq_true rfl⟩ ⟨rfl, rfl⟩ hml hl.1 hK hP hD hS hA ⟨rfl, rfl, rfl, rfl, rfl, rfl, rfl⟩ rfl ⟨rfl, rfl⟩ rfl rfl (Nat.le_of_ble_eq_true rfl) ⟨Nat.zero_le _, Nat.zero_le _⟩ dX3_asks_3 (fun H locs hP hD hS => ?_)
  refine lv_istore_n (lv' := [(3, .int (nI v)), (0, .ref h), (1, .int (nI q)), (2, .int (bI b))]) hx hb dX3_asks_6 rfl hl (by decide) rfl (fun ls hl => ?_)
  refine lv_aload_n hx hb dX3_asks_7 rfl (lv_at hl 1 rfl) ?_
  refine lv_dup hx hb dX3_asks_8 rfl ?_
  refine va_get (D := D) (ci := 3) (v := .int mhi1) (C := RX3) (T := TX3) (N := 16) hx hb hts hi_RX3 hown hK hP 0 rfl rfl 9 (by decide) hf_74 (fun _ h9 => h9) rfl dX3_asks_9 ?_
  refine lv_iload_n hx hb dX3_asks_12 rfl (lv_at hl 0 rfl) ?_
  have JN13 : ∀ x1 : Int32, x1 = (if v = 0 then 1 else 0) → W p l e rmX3_asks s m args below meth c H locs 0 0 Q (F0 m 21 ls [.int x1, .int mhi1, .ref h]) := by
    intro x1 hx1
    refine lv_iadd (x := mhi1) (y := x1) hx hb dX3_asks_21 ?_
    refine mq_put (D := D) (ci := 3) (v := .int (mhi1 + x1)) (ty := .int) (C := RX3) (T := TX3) (N := 16) (ws' := MDc cyI h a1 a2 a3 a4 a5 a6 a7 a8 a9 a10 (mw1, mh1, ms1, mp1, ml1, mb1, mm1, md1, mc1, mhi1 + x1, msw1, mmi1, mhc1, ma1, mq1, mt1)) hx hb hts hi_RX3 tyX3 tyX3_ok nmX3 hown hK hP hD hS 0 rfl rfl 9 (by decide) hf_74 (fun _ h9 => h9) rfl (by decide +kernel) rfl rfl (Nat.le_of_ble_eq_true rfl) dX3_asks_22 rfl (fun H locs hP hD hS => ?_)
    refine lv_aload_n hx hb dX3_asks_25 rfl (lv_at hl 1 rfl) ?_
    refine lv_dup hx hb dX3_asks_26 rfl ?_
    refine va_get (D := D) (ci := 3) (v := .int msw1) (C := RX3) (T := TX3) (N := 16) hx hb hts hi_RX3 hown hK hP 0 rfl rfl 10 (by decide) hf_77 (fun _ h9 => h9) rfl dX3_asks_27 ?_
    refine lv_iload_n hx hb dX3_asks_30 rfl (lv_at hl 0 rfl) ?_
    refine lv_iconst (v := nI 1) hx hb dX3_asks_31 (by decide) ?_
    have JN32 : ∀ x2 : Int32, x2 = (if v = 1 then 1 else 0) → W p l e rmX3_asks s m args below meth c H locs 0 0 Q (F0 m 40 ls [.int x2, .int msw1, .ref h]) := by
      intro x2 hx2
      refine lv_iadd (x := msw1) (y := x2) hx hb dX3_asks_40 ?_
      refine mq_put (D := D) (ci := 3) (v := .int (msw1 + x2)) (ty := .int) (C := RX3) (T := TX3) (N := 16) (ws' := MDc cyI h a1 a2 a3 a4 a5 a6 a7 a8 a9 a10 (mw1, mh1, ms1, mp1, ml1, mb1, mm1, md1, mc1, mhi1 + x1, msw1 + x2, mmi1, mhc1, ma1, mq1, mt1)) hx hb hts hi_RX3 tyX3 tyX3_ok nmX3 hown hK hP hD hS 0 rfl rfl 10 (by decide) hf_77 (fun _ h9 => h9) rfl (by decide +kernel) rfl rfl (Nat.le_of_ble_eq_true rfl) dX3_asks_41 rfl (fun H locs hP hD hS => ?_)
      refine lv_aload_n hx hb dX3_asks_44 rfl (lv_at hl 1 rfl) ?_
      refine lv_dup hx hb dX3_asks_45 rfl ?_
      refine va_get (D := D) (ci := 3) (v := .int mmi1) (C := RX3) (T := TX3) (N := 16) hx hb hts hi_RX3 hown hK hP 0 rfl rfl 11 (by decide) hf_80 (fun _ h9 => h9) rfl dX3_asks_46 ?_
      refine lv_iload_n hx hb dX3_asks_49 rfl (lv_at hl 0 rfl) ?_
      refine lv_iconst (v := nI 2) hx hb dX3_asks_50 (by decide) ?_
      have JN51 : ∀ x3 : Int32, x3 = (if v = 2 then 1 else 0) → W p l e rmX3_asks s m args below meth c H locs 0 0 Q (F0 m 59 ls [.int x3, .int mmi1, .ref h]) := by
        intro x3 hx3
        refine lv_iadd (x := mmi1) (y := x3) hx hb dX3_asks_59 ?_
        refine mq_put (D := D) (ci := 3) (v := .int (mmi1 + x3)) (ty := .int) (C := RX3) (T := TX3) (N := 16) (ws' := MDc cyI h a1 a2 a3 a4 a5 a6 a7 a8 a9 a10 (mw1, mh1, ms1, mp1, ml1, mb1, mm1, md1, mc1, mhi1 + x1, msw1 + x2, mmi1 + x3, mhc1, ma1, mq1, mt1)) hx hb hts hi_RX3 tyX3 tyX3_ok nmX3 hown hK hP hD hS 0 rfl rfl 11 (by decide) hf_80 (fun _ h9 => h9) rfl (by decide +kernel) rfl rfl (Nat.le_of_ble_eq_true rfl) dX3_asks_60 rfl (fun H locs hP hD hS => ?_)
        refine lv_aload_n hx hb dX3_asks_63 rfl (lv_at hl 1 rfl) ?_
        refine va_get (D := D) (ci := 3) (v := .ref a8) (C := RX3) (T := TX3) (N := 16) hx hb hts hi_RX3 hown hK hP 0 rfl rfl 7 (by decide) hf_31 (fun _ h9 => h9) rfl dX3_asks_64 ?_
        refine lv_iload_n hx hb dX3_asks_67 rfl (lv_at hl 2 rfl) ?_
        cases b
        · refine lv_iload_n hx hb dX3_asks_68 rfl (lv_at hl 3 rfl) ?_
          refine mq_bz (b := false) (tgt := 76) hx hb dX3_asks_69 (by decide) (fun c1 => ?_) (fun c1 => ?_)
          · refine lv_aload_n hx hb dX3_asks_76 rfl (lv_at hl 1 rfl) ?_
            refine va_get (D := D) (ci := 3) (v := .ref a8) (C := RX3) (T := TX3) (N := 16) hx hb hts hi_RX3 hown hK hP 0 rfl rfl 7 (by decide) hf_31 (fun _ h9 => h9) rfl dX3_asks_77 ?_
            refine lv_iload_n hx hb dX3_asks_80 rfl (lv_at hl 2 rfl) ?_
            refine mq_ld (k := q) bI md1 hx hb hK hP 8 0 rfl rfl (by omega) (Nat.le_of_ble_eq_true rfl) dX3_asks_81 ?_
            refine mq_st (k := q) bI md1 (md1 q) (ws' := MDc cyI h a1 a2 a3 a4 a5 a6 a7 a8 a9 a10 (mw1, mh1, ms1, mp1, ml1, mb1, mm1, ru md1 q (md1 q), mc1, mhi1 + x1, msw1 + x2, mmi1 + x3, mhc1, ma1, mq1, mt1)) hx hb hK hP hD hS 8 0 rfl rfl (by omega) (Nat.le_of_ble_eq_true rfl) dX3_asks_82 rfl (fun H locs hP hD hS => ?_)
            rw [show (ru md1 q (md1 q)) = md1 from (ru_id rfl)] at hP hD
            refine lv_aload_n hx hb dX3_asks_83 rfl (lv_at hl 1 rfl) ?_
            refine va_get (D := D) (ci := 3) (v := .int (nI mq1)) (C := RX3) (T := TX3) (N := 16) hx hb hts hi_RX3 hown hK hP 0 rfl rfl 14 (by decide) hf_83 (fun _ h9 => h9) rfl dX3_asks_84 ?_
            refine lv_sipush (v := nI 150) hx hb dX3_asks_87 (by decide) ?_
            refine mq_ne (x := mq1) (y := 150) (tgt := 136) (by omega) (by omega) hx hb dX3_asks_90 (by decide) (fun c4 => ?_) (fun c4 => ?_)
            · refine lv_aload_n hx hb dX3_asks_136 rfl (lv_at hl 1 rfl) ?_
              refine va_get (D := D) (ci := 3) (v := .ref a10) (C := RX3) (T := TX3) (N := 16) hx hb hts hi_RX3 hown hK hP 0 rfl rfl 13 (by decide) hf_37 (fun _ h9 => h9) rfl dX3_asks_137 ?_
              refine lv_aload_n hx hb dX3_asks_140 rfl (lv_at hl 1 rfl) ?_
              refine va_get (D := D) (ci := 3) (v := .int (nI mq1)) (C := RX3) (T := TX3) (N := 16) hx hb hts hi_RX3 hown hK hP 0 rfl rfl 14 (by decide) hf_83 (fun _ h9 => h9) rfl dX3_asks_141 ?_
              refine lv_iconst (v := nI 2) hx hb dX3_asks_144 (by decide) ?_
              refine lv_iload_n hx hb dX3_asks_145 rfl (lv_at hl 2 rfl) ?_
              refine mq_imul (x := 2) (y := q) hx hb dX3_asks_146 ?_
              refine lv_iload_n hx hb dX3_asks_147 rfl (lv_at hl 3 rfl) ?_
              refine mq_bz (b := false) (tgt := 155) hx hb dX3_asks_148 (by decide) (fun c2 => ?_) (fun c2 => ?_)
              · refine lv_iconst (v := nI 0) hx hb dX3_asks_155 (by decide) ?_
                refine mq_iadd (x := (2 * q)) (y := 0) hx hb dX3_asks_156 ?_
                refine mq_st (k := mq1) nI ma1 (2 * q + 0) (ws' := MDc cyI h a1 a2 a3 a4 a5 a6 a7 a8 a9 a10 (mw1, mh1, ms1, mp1, ml1, mb1, mm1, md1, mc1, mhi1 + x1, msw1 + x2, mmi1 + x3, mhc1, ru ma1 mq1 (2 * q + 0), mq1, mt1)) hx hb hK hP hD hS 10 0 rfl rfl (by omega) (Nat.le_of_ble_eq_true rfl) dX3_asks_157 rfl (fun H locs hP hD hS => ?_)
                refine lv_aload_n hx hb dX3_asks_158 rfl (lv_at hl 1 rfl) ?_
                refine lv_dup hx hb dX3_asks_159 rfl ?_
                refine va_get (D := D) (ci := 3) (v := .int (nI mq1)) (C := RX3) (T := TX3) (N := 16) hx hb hts hi_RX3 hown hK hP 0 rfl rfl 14 (by decide) hf_83 (fun _ h9 => h9) rfl dX3_asks_160 ?_
                refine lv_iconst (v := nI 1) hx hb dX3_asks_163 (by decide) ?_
                refine mq_iadd (x := mq1) (y := 1) hx hb dX3_asks_164 ?_
                refine mq_put (D := D) (ci := 3) (v := .int (nI (mq1 + 1))) (ty := .int) (C := RX3) (T := TX3) (N := 16) (ws' := MDc cyI h a1 a2 a3 a4 a5 a6 a7 a8 a9 a10 (mw1, mh1, ms1, mp1, ml1, mb1, mm1, md1, mc1, mhi1 + x1, msw1 + x2, mmi1 + x3, mhc1, ru ma1 mq1 (2 * q + 0), mq1 + 1, mt1)) hx hb hts hi_RX3 tyX3 tyX3_ok nmX3 hown hK hP hD hS 0 rfl rfl 14 (by decide) hf_83 (fun _ h9 => h9) rfl (by decide +kernel) rfl rfl (Nat.le_of_ble_eq_true rfl) dX3_asks_165 rfl (fun H locs hP hD hS => ?_)
                exact CtV.ret hQ hx hb hr hlk hK hP hD hS dX3_asks_168 (congrArg (MDc cyI h a1 a2 a3 a4 a5 a6 a7 a8 a9 a10) (by rw [md_ask_ne hv1 hvv c4, hx1, hx2, hx3]; rfl))
              · exact absurd c2 (by decide)
            · refine lv_iconst (v := nI 1) hx hb dX3_asks_93 (by decide) ?_
              refine lv_istore (lv' := [(4, .int (nI 1)), (3, .int (nI v)), (0, .ref h), (1, .int (nI q)), (2, .int (bI false))]) hx hb dX3_asks_94 hl (by decide) rfl (fun ls hl => ?_)
              rw [show ma1 = (shl ma1 0 0) from (shl_0 ma1 0).symm] at hP hD
              have LP96 : ∀ (fu : Nat) (i : Nat) (H : Heap) (locs : List Loc) (ls : Array Slot), (i ≤ 149) → 149 - i < fu → va_P D vwCl (MDc cyI h a1 a2 a3 a4 a5 a6 a7 a8 a9 a10 (mw1, mh1, ms1, mp1, ml1, mb1, mm1, md1, mc1, mhi1 + x1, msw1 + x2, mmi1 + x3, mhc1, shl ma1 0 i, mq1, mt1)) H → va_D A (MDc cyI h a1 a2 a3 a4 a5 a6 a7 a8 a9 a10 (mw1, mh1, ms1, mp1, ml1, mb1, mm1, md1, mc1, mhi1 + x1, msw1 + x2, mmi1 + x3, mhc1, shl ma1 0 i, mq1, mt1)) → va_S A s.heap H locs → lv_has ls 5 [(0, .ref h), (1, .int (nI q)), (2, .int (bI false)), (3, .int (nI v)), (4, .int (nI (i + 1)))] → W p l e rmX3_asks s m args below meth c H locs 0 0 Q (F0 m 96 ls []) := by
                intro fu
                induction fu with
                | zero =>
                  intro i H locs ls h2 hfu
                  exact absurd hfu (Nat.not_lt_zero _)
                | succ fu ih =>
                  intro i H locs ls h2 hfu hP hD hS hl
                  refine lv_iload hx hb dX3_asks_96 (lv_at hl 4 rfl) ?_
                  refine lv_sipush (v := nI 150) hx hb dX3_asks_98 (by decide) ?_
                  refine mq_ge (x := (i + 1)) (y := 150) (tgt := 126) (by omega) (by omega) hx hb dX3_asks_101 (by decide) (fun c5 => ?_) (fun c5 => ?_)
                  · have e : i = 149 := by omega
                    subst e
                    refine lv_aload_n hx hb dX3_asks_126 rfl (lv_at hl 0 rfl) ?_
                    refine lv_dup hx hb dX3_asks_127 rfl ?_
                    refine va_get (D := D) (ci := 3) (v := .int (nI mq1)) (C := RX3) (T := TX3) (N := 16) hx hb hts hi_RX3 hown hK hP 0 rfl rfl 14 (by decide) hf_83 (fun _ h9 => h9) rfl dX3_asks_128 ?_
                    refine lv_iconst (v := nI 1) hx hb dX3_asks_131 (by decide) ?_
                    refine mq_isub (x := mq1) (y := 1) (by omega) hx hb dX3_asks_132 ?_
                    refine mq_put (D := D) (ci := 3) (v := .int (nI (mq1 - 1))) (ty := .int) (C := RX3) (T := TX3) (N := 16) (ws' := MDc cyI h a1 a2 a3 a4 a5 a6 a7 a8 a9 a10 (mw1, mh1, ms1, mp1, ml1, mb1, mm1, md1, mc1, mhi1 + x1, msw1 + x2, mmi1 + x3, mhc1, shl ma1 0 149, mq1 - 1, mt1)) hx hb hts hi_RX3 tyX3 tyX3_ok nmX3 hown hK hP hD hS 0 rfl rfl 14 (by decide) hf_83 (fun _ h9 => h9) rfl (by decide +kernel) rfl rfl (Nat.le_of_ble_eq_true rfl) dX3_asks_133 rfl (fun H locs hP hD hS => ?_)
                    refine lv_aload_n hx hb dX3_asks_136 rfl (lv_at hl 0 rfl) ?_
                    refine va_get (D := D) (ci := 3) (v := .ref a10) (C := RX3) (T := TX3) (N := 16) hx hb hts hi_RX3 hown hK hP 0 rfl rfl 13 (by decide) hf_37 (fun _ h9 => h9) rfl dX3_asks_137 ?_
                    refine lv_aload_n hx hb dX3_asks_140 rfl (lv_at hl 0 rfl) ?_
                    refine va_get (D := D) (ci := 3) (v := .int (nI (mq1 - 1))) (C := RX3) (T := TX3) (N := 16) hx hb hts hi_RX3 hown hK hP 0 rfl rfl 14 (by decide) hf_83 (fun _ h9 => h9) rfl dX3_asks_141 ?_
                    refine lv_iconst (v := nI 2) hx hb dX3_asks_144 (by decide) ?_
                    refine lv_iload_n hx hb dX3_asks_145 rfl (lv_at hl 1 rfl) ?_
                    refine mq_imul (x := 2) (y := q) hx hb dX3_asks_146 ?_
                    refine lv_iload_n hx hb dX3_asks_147 rfl (lv_at hl 2 rfl) ?_
                    refine mq_bz (b := false) (tgt := 155) hx hb dX3_asks_148 (by decide) (fun c3 => ?_) (fun c3 => ?_)
                    · refine lv_iconst (v := nI 0) hx hb dX3_asks_155 (by decide) ?_
                      refine mq_iadd (x := (2 * q)) (y := 0) hx hb dX3_asks_156 ?_
                      refine mq_st (k := (mq1 - 1)) nI (shl ma1 0 149) (2 * q + 0) (ws' := MDc cyI h a1 a2 a3 a4 a5 a6 a7 a8 a9 a10 (mw1, mh1, ms1, mp1, ml1, mb1, mm1, md1, mc1, mhi1 + x1, msw1 + x2, mmi1 + x3, mhc1, ru (shl ma1 0 149) (mq1 - 1) (2 * q + 0), mq1 - 1, mt1)) hx hb hK hP hD hS 10 0 rfl rfl (by omega) (Nat.le_of_ble_eq_true rfl) dX3_asks_157 rfl (fun H locs hP hD hS => ?_)
                      refine lv_aload_n hx hb dX3_asks_158 rfl (lv_at hl 0 rfl) ?_
                      refine lv_dup hx hb dX3_asks_159 rfl ?_
                      refine va_get (D := D) (ci := 3) (v := .int (nI (mq1 - 1))) (C := RX3) (T := TX3) (N := 16) hx hb hts hi_RX3 hown hK hP 0 rfl rfl 14 (by decide) hf_83 (fun _ h9 => h9) rfl dX3_asks_160 ?_
                      refine lv_iconst (v := nI 1) hx hb dX3_asks_163 (by decide) ?_
                      refine mq_iadd (x := (mq1 - 1)) (y := 1) hx hb dX3_asks_164 ?_
                      refine mq_put (D := D) (ci := 3) (v := .int (nI (mq1 - 1 + 1))) (ty := .int) (C := RX3) (T := TX3) (N := 16) (ws' := MDc cyI h a1 a2 a3 a4 a5 a6 a7 a8 a9 a10 (mw1, mh1, ms1, mp1, ml1, mb1, mm1, md1, mc1, mhi1 + x1, msw1 + x2, mmi1 + x3, mhc1, ru (shl ma1 0 149) (mq1 - 1) (2 * q + 0), mq1 - 1 + 1, mt1)) hx hb hts hi_RX3 tyX3 tyX3_ok nmX3 hown hK hP hD hS 0 rfl rfl 14 (by decide) hf_83 (fun _ h9 => h9) rfl (by decide +kernel) rfl rfl (Nat.le_of_ble_eq_true rfl) dX3_asks_165 rfl (fun H locs hP hD hS => ?_)
                      exact CtV.ret hQ hx hb hr hlk hK hP hD hS dX3_asks_168 (congrArg (MDc cyI h a1 a2 a3 a4 a5 a6 a7 a8 a9 a10) (by rw [md_ask_eq hv1 hvv c4, c4, hx1, hx2, hx3]; rfl))
                    · exact absurd c3 (by decide)
                  · refine lv_aload_n hx hb dX3_asks_104 rfl (lv_at hl 0 rfl) ?_
                    refine va_get (D := D) (ci := 3) (v := .ref a10) (C := RX3) (T := TX3) (N := 16) hx hb hts hi_RX3 hown hK hP 0 rfl rfl 13 (by decide) hf_37 (fun _ h9 => h9) rfl dX3_asks_105 ?_
                    refine lv_iload hx hb dX3_asks_108 (lv_at hl 4 rfl) ?_
                    refine lv_iconst (v := nI 1) hx hb dX3_asks_110 (by decide) ?_
                    refine mq_isub (x := (i + 1)) (y := 1) (by omega) hx hb dX3_asks_111 ?_
                    refine lv_aload_n hx hb dX3_asks_112 rfl (lv_at hl 0 rfl) ?_
                    refine va_get (D := D) (ci := 3) (v := .ref a10) (C := RX3) (T := TX3) (N := 16) hx hb hts hi_RX3 hown hK hP 0 rfl rfl 13 (by decide) hf_37 (fun _ h9 => h9) rfl dX3_asks_113 ?_
                    refine lv_iload hx hb dX3_asks_116 (lv_at hl 4 rfl) ?_
                    refine mq_ld (k := (i + 1)) nI (shl ma1 0 i) hx hb hK hP 10 0 rfl rfl (by omega) (Nat.le_of_ble_eq_true rfl) dX3_asks_118 ?_
                    refine mq_st (k := (i + 1 - 1)) nI (shl ma1 0 i) ((shl ma1 0 i) (i + 1)) (ws' := MDc cyI h a1 a2 a3 a4 a5 a6 a7 a8 a9 a10 (mw1, mh1, ms1, mp1, ml1, mb1, mm1, md1, mc1, mhi1 + x1, msw1 + x2, mmi1 + x3, mhc1, ru (shl ma1 0 i) (i + 1 - 1) ((shl ma1 0 i) (i + 1)), mq1, mt1)) hx hb hK hP hD hS 10 0 rfl rfl (by omega) (Nat.le_of_ble_eq_true rfl) dX3_asks_119 rfl (fun H locs hP hD hS => ?_)
                    rw [show (ru (shl ma1 0 i) (i + 1 - 1) ((shl ma1 0 i) (i + 1))) = (shl ma1 0 (i + 1)) from (by rw [Nat.add_sub_cancel]; exact shl_s (Nat.zero_le i))] at hP hD
                    refine lv_iinc (v := nI (i + 1 + 1)) (lv' := [(4, .int (nI (i + 1 + 1))), (0, .ref h), (1, .int (nI q)), (2, .int (bI false)), (3, .int (nI v))]) hx hb dX3_asks_120 hl (k := 4) rfl (inc1 _) (by decide) rfl (fun ls hl => ?_)
                    refine lv_goto (tgt := 96) hx hb dX3_asks_123 (by decide) ?_
                    exact ih (i + 1) _ _ _ (by omega) (by omega) hP hD hS (lv_sub hl [1, 2, 3, 4, 0] rfl)
              exact LP96 _ 0 _ _ _ (Nat.zero_le _) (Nat.lt_succ_self _) hP hD hS (lv_sub hl [2, 3, 4, 1, 0] rfl)
          · exact absurd c1 (by decide)
        · refine lv_iload_n hx hb dX3_asks_68 rfl (lv_at hl 3 rfl) ?_
          refine mq_bz (b := true) (tgt := 76) hx hb dX3_asks_69 (by decide) (fun c4 => ?_) (fun c4 => ?_)
          · exact absurd c4 (by decide)
          · refine lv_iconst (v := nI 1) hx hb dX3_asks_72 (by decide) ?_
            refine lv_goto (tgt := 82) hx hb dX3_asks_73 (by decide) ?_
            refine mq_st (k := q) bI md1 true (ws' := MDc cyI h a1 a2 a3 a4 a5 a6 a7 a8 a9 a10 (mw1, mh1, ms1, mp1, ml1, mb1, mm1, ru md1 q true, mc1, mhi1 + x1, msw1 + x2, mmi1 + x3, mhc1, ma1, mq1, mt1)) hx hb hK hP hD hS 8 0 rfl rfl (by omega) (Nat.le_of_ble_eq_true rfl) dX3_asks_82 rfl (fun H locs hP hD hS => ?_)
            refine lv_aload_n hx hb dX3_asks_83 rfl (lv_at hl 1 rfl) ?_
            refine va_get (D := D) (ci := 3) (v := .int (nI mq1)) (C := RX3) (T := TX3) (N := 16) hx hb hts hi_RX3 hown hK hP 0 rfl rfl 14 (by decide) hf_83 (fun _ h9 => h9) rfl dX3_asks_84 ?_
            refine lv_sipush (v := nI 150) hx hb dX3_asks_87 (by decide) ?_
            refine mq_ne (x := mq1) (y := 150) (tgt := 136) (by omega) (by omega) hx hb dX3_asks_90 (by decide) (fun c4 => ?_) (fun c4 => ?_)
            · refine lv_aload_n hx hb dX3_asks_136 rfl (lv_at hl 1 rfl) ?_
              refine va_get (D := D) (ci := 3) (v := .ref a10) (C := RX3) (T := TX3) (N := 16) hx hb hts hi_RX3 hown hK hP 0 rfl rfl 13 (by decide) hf_37 (fun _ h9 => h9) rfl dX3_asks_137 ?_
              refine lv_aload_n hx hb dX3_asks_140 rfl (lv_at hl 1 rfl) ?_
              refine va_get (D := D) (ci := 3) (v := .int (nI mq1)) (C := RX3) (T := TX3) (N := 16) hx hb hts hi_RX3 hown hK hP 0 rfl rfl 14 (by decide) hf_83 (fun _ h9 => h9) rfl dX3_asks_141 ?_
              refine lv_iconst (v := nI 2) hx hb dX3_asks_144 (by decide) ?_
              refine lv_iload_n hx hb dX3_asks_145 rfl (lv_at hl 2 rfl) ?_
              refine mq_imul (x := 2) (y := q) hx hb dX3_asks_146 ?_
              refine lv_iload_n hx hb dX3_asks_147 rfl (lv_at hl 3 rfl) ?_
              refine mq_bz (b := true) (tgt := 155) hx hb dX3_asks_148 (by decide) (fun c5 => ?_) (fun c5 => ?_)
              · exact absurd c5 (by decide)
              · refine lv_iconst (v := nI 1) hx hb dX3_asks_151 (by decide) ?_
                refine lv_goto (tgt := 156) hx hb dX3_asks_152 (by decide) ?_
                refine mq_iadd (x := (2 * q)) (y := 1) hx hb dX3_asks_156 ?_
                refine mq_st (k := mq1) nI ma1 (2 * q + 1) (ws' := MDc cyI h a1 a2 a3 a4 a5 a6 a7 a8 a9 a10 (mw1, mh1, ms1, mp1, ml1, mb1, mm1, ru md1 q true, mc1, mhi1 + x1, msw1 + x2, mmi1 + x3, mhc1, ru ma1 mq1 (2 * q + 1), mq1, mt1)) hx hb hK hP hD hS 10 0 rfl rfl (by omega) (Nat.le_of_ble_eq_true rfl) dX3_asks_157 rfl (fun H locs hP hD hS => ?_)
                refine lv_aload_n hx hb dX3_asks_158 rfl (lv_at hl 1 rfl) ?_
                refine lv_dup hx hb dX3_asks_159 rfl ?_
                refine va_get (D := D) (ci := 3) (v := .int (nI mq1)) (C := RX3) (T := TX3) (N := 16) hx hb hts hi_RX3 hown hK hP 0 rfl rfl 14 (by decide) hf_83 (fun _ h9 => h9) rfl dX3_asks_160 ?_
                refine lv_iconst (v := nI 1) hx hb dX3_asks_163 (by decide) ?_
                refine mq_iadd (x := mq1) (y := 1) hx hb dX3_asks_164 ?_
                refine mq_put (D := D) (ci := 3) (v := .int (nI (mq1 + 1))) (ty := .int) (C := RX3) (T := TX3) (N := 16) (ws' := MDc cyI h a1 a2 a3 a4 a5 a6 a7 a8 a9 a10 (mw1, mh1, ms1, mp1, ml1, mb1, mm1, ru md1 q true, mc1, mhi1 + x1, msw1 + x2, mmi1 + x3, mhc1, ru ma1 mq1 (2 * q + 1), mq1 + 1, mt1)) hx hb hts hi_RX3 tyX3 tyX3_ok nmX3 hown hK hP hD hS 0 rfl rfl 14 (by decide) hf_83 (fun _ h9 => h9) rfl (by decide +kernel) rfl rfl (Nat.le_of_ble_eq_true rfl) dX3_asks_165 rfl (fun H locs hP hD hS => ?_)
                exact CtV.ret hQ hx hb hr hlk hK hP hD hS dX3_asks_168 (congrArg (MDc cyI h a1 a2 a3 a4 a5 a6 a7 a8 a9 a10) (by rw [md_ask_ne hv1 hvv c4, hx1, hx2, hx3]; rfl))
            · refine lv_iconst (v := nI 1) hx hb dX3_asks_93 (by decide) ?_
              refine lv_istore (lv' := [(4, .int (nI 1)), (3, .int (nI v)), (0, .ref h), (1, .int (nI q)), (2, .int (bI true))]) hx hb dX3_asks_94 hl (by decide) rfl (fun ls hl => ?_)
              rw [show ma1 = (shl ma1 0 0) from (shl_0 ma1 0).symm] at hP hD
              have LP96 : ∀ (fu : Nat) (i : Nat) (H : Heap) (locs : List Loc) (ls : Array Slot), (i ≤ 149) → 149 - i < fu → va_P D vwCl (MDc cyI h a1 a2 a3 a4 a5 a6 a7 a8 a9 a10 (mw1, mh1, ms1, mp1, ml1, mb1, mm1, ru md1 q true, mc1, mhi1 + x1, msw1 + x2, mmi1 + x3, mhc1, shl ma1 0 i, mq1, mt1)) H → va_D A (MDc cyI h a1 a2 a3 a4 a5 a6 a7 a8 a9 a10 (mw1, mh1, ms1, mp1, ml1, mb1, mm1, ru md1 q true, mc1, mhi1 + x1, msw1 + x2, mmi1 + x3, mhc1, shl ma1 0 i, mq1, mt1)) → va_S A s.heap H locs → lv_has ls 5 [(0, .ref h), (1, .int (nI q)), (2, .int (bI true)), (3, .int (nI v)), (4, .int (nI (i + 1)))] → W p l e rmX3_asks s m args below meth c H locs 0 0 Q (F0 m 96 ls []) := by
                intro fu
                induction fu with
                | zero =>
                  intro i H locs ls h2 hfu
                  exact absurd hfu (Nat.not_lt_zero _)
                | succ fu ih =>
                  intro i H locs ls h2 hfu hP hD hS hl
                  refine lv_iload hx hb dX3_asks_96 (lv_at hl 4 rfl) ?_
                  refine lv_sipush (v := nI 150) hx hb dX3_asks_98 (by decide) ?_
                  refine mq_ge (x := (i + 1)) (y := 150) (tgt := 126) (by omega) (by omega) hx hb dX3_asks_101 (by decide) (fun c5 => ?_) (fun c5 => ?_)
                  · have e : i = 149 := by omega
                    subst e
                    refine lv_aload_n hx hb dX3_asks_126 rfl (lv_at hl 0 rfl) ?_
                    refine lv_dup hx hb dX3_asks_127 rfl ?_
                    refine va_get (D := D) (ci := 3) (v := .int (nI mq1)) (C := RX3) (T := TX3) (N := 16) hx hb hts hi_RX3 hown hK hP 0 rfl rfl 14 (by decide) hf_83 (fun _ h9 => h9) rfl dX3_asks_128 ?_
                    refine lv_iconst (v := nI 1) hx hb dX3_asks_131 (by decide) ?_
                    refine mq_isub (x := mq1) (y := 1) (by omega) hx hb dX3_asks_132 ?_
                    refine mq_put (D := D) (ci := 3) (v := .int (nI (mq1 - 1))) (ty := .int) (C := RX3) (T := TX3) (N := 16) (ws' := MDc cyI h a1 a2 a3 a4 a5 a6 a7 a8 a9 a10 (mw1, mh1, ms1, mp1, ml1, mb1, mm1, ru md1 q true, mc1, mhi1 + x1, msw1 + x2, mmi1 + x3, mhc1, shl ma1 0 149, mq1 - 1, mt1)) hx hb hts hi_RX3 tyX3 tyX3_ok nmX3 hown hK hP hD hS 0 rfl rfl 14 (by decide) hf_83 (fun _ h9 => h9) rfl (by decide +kernel) rfl rfl (Nat.le_of_ble_eq_true rfl) dX3_asks_133 rfl (fun H locs hP hD hS => ?_)
                    refine lv_aload_n hx hb dX3_asks_136 rfl (lv_at hl 0 rfl) ?_
                    refine va_get (D := D) (ci := 3) (v := .ref a10) (C := RX3) (T := TX3) (N := 16) hx hb hts hi_RX3 hown hK hP 0 rfl rfl 13 (by decide) hf_37 (fun _ h9 => h9) rfl dX3_asks_137 ?_
                    refine lv_aload_n hx hb dX3_asks_140 rfl (lv_at hl 0 rfl) ?_
                    refine va_get (D := D) (ci := 3) (v := .int (nI (mq1 - 1))) (C := RX3) (T := TX3) (N := 16) hx hb hts hi_RX3 hown hK hP 0 rfl rfl 14 (by decide) hf_83 (fun _ h9 => h9) rfl dX3_asks_141 ?_
                    refine lv_iconst (v := nI 2) hx hb dX3_asks_144 (by decide) ?_
                    refine lv_iload_n hx hb dX3_asks_145 rfl (lv_at hl 1 rfl) ?_
                    refine mq_imul (x := 2) (y := q) hx hb dX3_asks_146 ?_
                    refine lv_iload_n hx hb dX3_asks_147 rfl (lv_at hl 2 rfl) ?_
                    refine mq_bz (b := true) (tgt := 155) hx hb dX3_asks_148 (by decide) (fun c6 => ?_) (fun c6 => ?_)
                    · exact absurd c6 (by decide)
                    · refine lv_iconst (v := nI 1) hx hb dX3_asks_151 (by decide) ?_
                      refine lv_goto (tgt := 156) hx hb dX3_asks_152 (by decide) ?_
                      refine mq_iadd (x := (2 * q)) (y := 1) hx hb dX3_asks_156 ?_
                      refine mq_st (k := (mq1 - 1)) nI (shl ma1 0 149) (2 * q + 1) (ws' := MDc cyI h a1 a2 a3 a4 a5 a6 a7 a8 a9 a10 (mw1, mh1, ms1, mp1, ml1, mb1, mm1, ru md1 q true, mc1, mhi1 + x1, msw1 + x2, mmi1 + x3, mhc1, ru (shl ma1 0 149) (mq1 - 1) (2 * q + 1), mq1 - 1, mt1)) hx hb hK hP hD hS 10 0 rfl rfl (by omega) (Nat.le_of_ble_eq_true rfl) dX3_asks_157 rfl (fun H locs hP hD hS => ?_)
                      refine lv_aload_n hx hb dX3_asks_158 rfl (lv_at hl 0 rfl) ?_
                      refine lv_dup hx hb dX3_asks_159 rfl ?_
                      refine va_get (D := D) (ci := 3) (v := .int (nI (mq1 - 1))) (C := RX3) (T := TX3) (N := 16) hx hb hts hi_RX3 hown hK hP 0 rfl rfl 14 (by decide) hf_83 (fun _ h9 => h9) rfl dX3_asks_160 ?_
                      refine lv_iconst (v := nI 1) hx hb dX3_asks_163 (by decide) ?_
                      refine mq_iadd (x := (mq1 - 1)) (y := 1) hx hb dX3_asks_164 ?_
                      refine mq_put (D := D) (ci := 3) (v := .int (nI (mq1 - 1 + 1))) (ty := .int) (C := RX3) (T := TX3) (N := 16) (ws' := MDc cyI h a1 a2 a3 a4 a5 a6 a7 a8 a9 a10 (mw1, mh1, ms1, mp1, ml1, mb1, mm1, ru md1 q true, mc1, mhi1 + x1, msw1 + x2, mmi1 + x3, mhc1, ru (shl ma1 0 149) (mq1 - 1) (2 * q + 1), mq1 - 1 + 1, mt1)) hx hb hts hi_RX3 tyX3 tyX3_ok nmX3 hown hK hP hD hS 0 rfl rfl 14 (by decide) hf_83 (fun _ h9 => h9) rfl (by decide +kernel) rfl rfl (Nat.le_of_ble_eq_true rfl) dX3_asks_165 rfl (fun H locs hP hD hS => ?_)
                      exact CtV.ret hQ hx hb hr hlk hK hP hD hS dX3_asks_168 (congrArg (MDc cyI h a1 a2 a3 a4 a5 a6 a7 a8 a9 a10) (by rw [md_ask_eq hv1 hvv c4, c4, hx1, hx2, hx3]; rfl))
                  · refine lv_aload_n hx hb dX3_asks_104 rfl (lv_at hl 0 rfl) ?_
                    refine va_get (D := D) (ci := 3) (v := .ref a10) (C := RX3) (T := TX3) (N := 16) hx hb hts hi_RX3 hown hK hP 0 rfl rfl 13 (by decide) hf_37 (fun _ h9 => h9) rfl dX3_asks_105 ?_
                    refine lv_iload hx hb dX3_asks_108 (lv_at hl 4 rfl) ?_
                    refine lv_iconst (v := nI 1) hx hb dX3_asks_110 (by decide) ?_
                    refine mq_isub (x := (i + 1)) (y := 1) (by omega) hx hb dX3_asks_111 ?_
                    refine lv_aload_n hx hb dX3_asks_112 rfl (lv_at hl 0 rfl) ?_
                    refine va_get (D := D) (ci := 3) (v := .ref a10) (C := RX3) (T := TX3) (N := 16) hx hb hts hi_RX3 hown hK hP 0 rfl rfl 13 (by decide) hf_37 (fun _ h9 => h9) rfl dX3_asks_113 ?_
                    refine lv_iload hx hb dX3_asks_116 (lv_at hl 4 rfl) ?_
                    refine mq_ld (k := (i + 1)) nI (shl ma1 0 i) hx hb hK hP 10 0 rfl rfl (by omega) (Nat.le_of_ble_eq_true rfl) dX3_asks_118 ?_
                    refine mq_st (k := (i + 1 - 1)) nI (shl ma1 0 i) ((shl ma1 0 i) (i + 1)) (ws' := MDc cyI h a1 a2 a3 a4 a5 a6 a7 a8 a9 a10 (mw1, mh1, ms1, mp1, ml1, mb1, mm1, ru md1 q true, mc1, mhi1 + x1, msw1 + x2, mmi1 + x3, mhc1, ru (shl ma1 0 i) (i + 1 - 1) ((shl ma1 0 i) (i + 1)), mq1, mt1)) hx hb hK hP hD hS 10 0 rfl rfl (by omega) (Nat.le_of_ble_eq_true rfl) dX3_asks_119 rfl (fun H locs hP hD hS => ?_)
                    rw [show (ru (shl ma1 0 i) (i + 1 - 1) ((shl ma1 0 i) (i + 1))) = (shl ma1 0 (i + 1)) from (by rw [Nat.add_sub_cancel]; exact shl_s (Nat.zero_le i))] at hP hD
                    refine lv_iinc (v := nI (i + 1 + 1)) (lv' := [(4, .int (nI (i + 1 + 1))), (0, .ref h), (1, .int (nI q)), (2, .int (bI true)), (3, .int (nI v))]) hx hb dX3_asks_120 hl (k := 4) rfl (inc1 _) (by decide) rfl (fun ls hl => ?_)
                    refine lv_goto (tgt := 96) hx hb dX3_asks_123 (by decide) ?_
                    exact ih (i + 1) _ _ _ (by omega) (by omega) hP hD hS (lv_sub hl [1, 2, 3, 4, 0] rfl)
              exact LP96 _ 0 _ _ _ (Nat.zero_le _) (Nat.lt_succ_self _) hP hD hS (lv_sub hl [2, 3, 4, 1, 0] rfl)
      refine mq_ne (x := v) (y := 2) (tgt := 58) (by omega) (by omega) hx hb dX3_asks_51 (by decide) (fun c3 => ?_) (fun c3 => ?_)
      · refine lv_iconst (v := nI 0) hx hb dX3_asks_58 (by decide) ?_
        exact JN51 _ (by rw [if_neg c3]; rfl)
      · refine lv_iconst (v := nI 1) hx hb dX3_asks_54 (by decide) ?_
        refine lv_goto (tgt := 59) hx hb dX3_asks_55 (by decide) ?_
        exact JN51 _ (by rw [if_pos c3]; rfl)
    refine mq_ne (x := v) (y := 1) (tgt := 39) (by omega) (by omega) hx hb dX3_asks_32 (by decide) (fun c2 => ?_) (fun c2 => ?_)
    · refine lv_iconst (v := nI 0) hx hb dX3_asks_39 (by decide) ?_
      exact JN32 _ (by rw [if_neg c2]; rfl)
    · refine lv_iconst (v := nI 1) hx hb dX3_asks_35 (by decide) ?_
      refine lv_goto (tgt := 40) hx hb dX3_asks_36 (by decide) ?_
      exact JN32 _ (by rw [if_pos c2]; rfl)
  refine mq_nz (x := v) (tgt := 20) (by omega) hx hb dX3_asks_13 (by decide) (fun c1 => ?_) (fun c1 => ?_)
  · refine lv_iconst (v := nI 0) hx hb dX3_asks_20 (by decide) ?_
    exact JN13 _ (by rw [if_neg (by omega)]; rfl)
  · refine lv_iconst (v := nI 1) hx hb dX3_asks_16 (by decide) ?_
    refine lv_goto (tgt := 21) hx hb dX3_asks_17 (by decide) ?_
    exact JN13 _ (by rw [if_pos c1]; rfl)

abbrev rmX3_bringsHome : Room := { frames := 1, cells := 0, slots := 0, locals := 23 }
set_option maxRecDepth 100000 in
set_option maxHeartbeats 4000000 in
theorem m_brings (l : Launch) (D : va_G) (cyI cyZ cyJ : ClassId) (h a1 a2 a3 a4 a5 a6 a7 a8 a9 a10 : Nat) (mw : Nat → Int32) (mh : Nat → Int32) (ms : Nat → Nat) (mp : Nat → Nat) (ml : Nat → Option Nat) (mb : Nat → Nat) (mm : Nat → Nat) (md : Nat → Bool) (mc : Nat → Int32) (mhi : Int32) (msw : Int32) (mmi : Int32) (mhc : Int32) (ma : Nat → Nat) (mq : Nat) (mt : Nat)  : CtI l yX3_bringsHome wsX3_bringsHome rmX3_bringsHome D (T3 cyI cyZ cyJ) [.ref h] (MDc cyI h a1 a2 a3 a4 a5 a6 a7 a8 a9 a10 (mw, mh, ms, mp, ml, mb, mm, md, mc, mhi, msw, mmi, mhc, ma, mq, mt)) (nI (cnt md 256)) (MDc cyI h a1 a2 a3 a4 a5 a6 a7 a8 a9 a10 (md_all (mw, mh, ms, mp, ml, mb, mm, md, mc, mhi, msw, mmi, mhc, ma, mq, mt))) := by
  refine CtI.of (cc := cX3_bringsHome) (maxL := 3) (ret := (some .int)) (lv0 := [(0, .ref h)]) (by decide) rfl (Nat.le_of_ble_eq_true rfl) rfl ?_
  intro p e s m below meth c A ls args Q hx hb hml hr hlk hts hown hK hP hA hD hS hl hQ
  have hown : s.vm.findClass RX3 = some m.cls := hown
  have hi_RX3 : ∀ w ∈ wsX30, w ∈ wsX3_bringsHome := by decide +kernel
  have hf_31 := hts (.fieldLink RX3 31 "OutcastBenchModel" "isDirty" "[I") (by decide +kernel)
  refine lv_iconst (v := nI 0) hx hb dX3_bringsHome_0 (by decide) ?_
  refine lv_istore_n (lv' := [(1, .int (nI 0)), (0, .ref h)]) hx hb dX3_bringsHome_1 rfl hl (by decide) rfl (fun ls hl => ?_)
  refine lv_iconst (v := nI 0) hx hb dX3_bringsHome_2 (by decide) ?_
  refine lv_istore_n (lv' := [(2, .int (nI 0)), (1, .int (nI 0)), (0, .ref h)]) hx hb dX3_bringsHome_3 rfl hl (by decide) rfl (fun ls hl => ?_)
  have LP4 : ∀ (fu : Nat) (i : Nat) (k : Nat) (H : Heap) (locs : List Loc) (ls : Array Slot), (i ≤ 256) → (k = cnt md i) → 256 - i < fu → va_P D vwCl (MDc cyI h a1 a2 a3 a4 a5 a6 a7 a8 a9 a10 ((md_bhs i (mw, mh, ms, mp, ml, mb, mm, md, mc, mhi, msw, mmi, mhc, ma, mq, mt)).1, (md_bhs i (mw, mh, ms, mp, ml, mb, mm, md, mc, mhi, msw, mmi, mhc, ma, mq, mt)).2.1, (md_bhs i (mw, mh, ms, mp, ml, mb, mm, md, mc, mhi, msw, mmi, mhc, ma, mq, mt)).2.2.1, (md_bhs i (mw, mh, ms, mp, ml, mb, mm, md, mc, mhi, msw, mmi, mhc, ma, mq, mt)).2.2.2.1, (md_bhs i (mw, mh, ms, mp, ml, mb, mm, md, mc, mhi, msw, mmi, mhc, ma, mq, mt)).2.2.2.2.1, (md_bhs i (mw, mh, ms, mp, ml, mb, mm, md, mc, mhi, msw, mmi, mhc, ma, mq, mt)).2.2.2.2.2.1, (md_bhs i (mw, mh, ms, mp, ml, mb, mm, md, mc, mhi, msw, mmi, mhc, ma, mq, mt)).2.2.2.2.2.2.1, (md_bhs i (mw, mh, ms, mp, ml, mb, mm, md, mc, mhi, msw, mmi, mhc, ma, mq, mt)).2.2.2.2.2.2.2.1, (md_bhs i (mw, mh, ms, mp, ml, mb, mm, md, mc, mhi, msw, mmi, mhc, ma, mq, mt)).2.2.2.2.2.2.2.2.1, (md_bhs i (mw, mh, ms, mp, ml, mb, mm, md, mc, mhi, msw, mmi, mhc, ma, mq, mt)).2.2.2.2.2.2.2.2.2.1, (md_bhs i (mw, mh, ms, mp, ml, mb, mm, md, mc, mhi, msw, mmi, mhc, ma, mq, mt)).2.2.2.2.2.2.2.2.2.2.1, (md_bhs i (mw, mh, ms, mp, ml, mb, mm, md, mc, mhi, msw, mmi, mhc, ma, mq, mt)).2.2.2.2.2.2.2.2.2.2.2.1, (md_bhs i (mw, mh, ms, mp, ml, mb, mm, md, mc, mhi, msw, mmi, mhc, ma, mq, mt)).2.2.2.2.2.2.2.2.2.2.2.2.1, (md_bhs i (mw, mh, ms, mp, ml, mb, mm, md, mc, mhi, msw, mmi, mhc, ma, mq, mt)).2.2.2.2.2.2.2.2.2.2.2.2.2.1, (md_bhs i (mw, mh, ms, mp, ml, mb, mm, md, mc, mhi, msw, mmi, mhc, ma, mq, mt)).2.2.2.2.2.2.2.2.2.2.2.2.2.2.1, (md_bhs i (mw, mh, ms, mp, ml, mb, mm, md, mc, mhi, msw, mmi, mhc, ma, mq, mt)).2.2.2.2.2.2.2.2.2.2.2.2.2.2.2)) H → va_D A (MDc cyI h a1 a2 a3 a4 a5 a6 a7 a8 a9 a10 ((md_bhs i (mw, mh, ms, mp, ml, mb, mm, md, mc, mhi, msw, mmi, mhc, ma, mq, mt)).1, (md_bhs i (mw, mh, ms, mp, ml, mb, mm, md, mc, mhi, msw, mmi, mhc, ma, mq, mt)).2.1, (md_bhs i (mw, mh, ms, mp, ml, mb, mm, md, mc, mhi, msw, mmi, mhc, ma, mq, mt)).2.2.1, (md_bhs i (mw, mh, ms, mp, ml, mb, mm, md, mc, mhi, msw, mmi, mhc, ma, mq, mt)).2.2.2.1, (md_bhs i (mw, mh, ms, mp, ml, mb, mm, md, mc, mhi, msw, mmi, mhc, ma, mq, mt)).2.2.2.2.1, (md_bhs i (mw, mh, ms, mp, ml, mb, mm, md, mc, mhi, msw, mmi, mhc, ma, mq, mt)).2.2.2.2.2.1, (md_bhs i (mw, mh, ms, mp, ml, mb, mm, md, mc, mhi, msw, mmi, mhc, ma, mq, mt)).2.2.2.2.2.2.1, (md_bhs i (mw, mh, ms, mp, ml, mb, mm, md, mc, mhi, msw, mmi, mhc, ma, mq, mt)).2.2.2.2.2.2.2.1, (md_bhs i (mw, mh, ms, mp, ml, mb, mm, md, mc, mhi, msw, mmi, mhc, ma, mq, mt)).2.2.2.2.2.2.2.2.1, (md_bhs i (mw, mh, ms, mp, ml, mb, mm, md, mc, mhi, msw, mmi, mhc, ma, mq, mt)).2.2.2.2.2.2.2.2.2.1, (md_bhs i (mw, mh, ms, mp, ml, mb, mm, md, mc, mhi, msw, mmi, mhc, ma, mq, mt)).2.2.2.2.2.2.2.2.2.2.1, (md_bhs i (mw, mh, ms, mp, ml, mb, mm, md, mc, mhi, msw, mmi, mhc, ma, mq, mt)).2.2.2.2.2.2.2.2.2.2.2.1, (md_bhs i (mw, mh, ms, mp, ml, mb, mm, md, mc, mhi, msw, mmi, mhc, ma, mq, mt)).2.2.2.2.2.2.2.2.2.2.2.2.1, (md_bhs i (mw, mh, ms, mp, ml, mb, mm, md, mc, mhi, msw, mmi, mhc, ma, mq, mt)).2.2.2.2.2.2.2.2.2.2.2.2.2.1, (md_bhs i (mw, mh, ms, mp, ml, mb, mm, md, mc, mhi, msw, mmi, mhc, ma, mq, mt)).2.2.2.2.2.2.2.2.2.2.2.2.2.2.1, (md_bhs i (mw, mh, ms, mp, ml, mb, mm, md, mc, mhi, msw, mmi, mhc, ma, mq, mt)).2.2.2.2.2.2.2.2.2.2.2.2.2.2.2)) → va_S A s.heap H locs → lv_has ls 3 [(0, .ref h), (1, .int (nI k)), (2, .int (nI i))] → W p l e rmX3_bringsHome s m args below meth c H locs 0 0 Q (F0 m 4 ls []) := by
    intro fu
    induction fu with
    | zero =>
      intro i k H locs ls h2 hk0 hfu
      exact absurd hfu (Nat.not_lt_zero _)
    | succ fu ih =>
      intro i k H locs ls h2 hk0 hfu hP hD hS hl
      refine lv_iload_n hx hb dX3_bringsHome_4 rfl (lv_at hl 2 rfl) ?_
      refine lv_sipush (v := nI 256) hx hb dX3_bringsHome_5 (by decide) ?_
      refine mq_ge (x := i) (y := 256) (tgt := 36) (by omega) (by omega) hx hb dX3_bringsHome_8 (by decide) (fun c1 => ?_) (fun c1 => ?_)
      · have e : i = 256 := by omega
        refine lv_iload_n hx hb dX3_bringsHome_36 rfl (lv_at hl 1 rfl) ?_
        exact CtI.ret hQ hx hb hr hlk hK hP hD hS dX3_bringsHome_37 (by rw [hk0, e]) (congrArg (MDc cyI h a1 a2 a3 a4 a5 a6 a7 a8 a9 a10) (congrArg (fun j => md_bhs j (mw, mh, ms, mp, ml, mb, mm, md, mc, mhi, msw, mmi, mhc, ma, mq, mt)) e))
      · refine lv_aload_n hx hb dX3_bringsHome_11 rfl (lv_at hl 0 rfl) ?_
        refine va_get (D := D) (ci := 3) (v := .ref a8) (C := RX3) (T := TX3) (N := 16) hx hb hts hi_RX3 hown hK hP 0 rfl rfl 7 (by decide) hf_31 (fun _ h9 => h9) rfl dX3_bringsHome_12 ?_
        refine lv_iload_n hx hb dX3_bringsHome_15 rfl (lv_at hl 2 rfl) ?_
        refine mq_ld (k := i) bI ((md_bhs i (mw, mh, ms, mp, ml, mb, mm, md, mc, mhi, msw, mmi, mhc, ma, mq, mt)).2.2.2.2.2.2.2.1) hx hb hK hP 8 0 rfl rfl (by omega) (Nat.le_of_ble_eq_true rfl) dX3_bringsHome_16 ?_
        have hdi : (md_bhs i (mw, mh, ms, mp, ml, mb, mm, md, mc, mhi, msw, mmi, mhc, ma, mq, mt)).2.2.2.2.2.2.2.1 i = md i := by have h9 := md_bhs_dt (x := (mw, mh, ms, mp, ml, mb, mm, md, mc, mhi, msw, mmi, mhc, ma, mq, mt)) i i; rw [if_neg (Nat.lt_irrefl i)] at h9; exact h9
        rw [show bI (((md_bhs i (mw, mh, ms, mp, ml, mb, mm, md, mc, mhi, msw, mmi, mhc, ma, mq, mt)).2.2.2.2.2.2.2.1) i) = bI (md i) from (by rw [hdi])]
        refine lv_iconst (v := nI 1) hx hb dX3_bringsHome_17 (by decide) ?_
        refine lv_icmp_ne (x := bI (md i)) (y := 1) (tgt := 30) hx hb dX3_bringsHome_18 (by decide) (fun c2 => ?_) (fun c2 => ?_)
        · have c3 : md i = false := by cases hh : md i; rfl; exact absurd (by rw [hh]; rfl) c2
          refine lv_iinc (v := nI (i + 1)) (lv' := [(2, .int (nI (i + 1))), (0, .ref h), (1, .int (nI k))]) hx hb dX3_bringsHome_30 hl (k := 2) rfl (inc1 _) (by decide) rfl (fun ls hl => ?_)
          refine lv_goto (tgt := 4) hx hb dX3_bringsHome_33 (by decide) ?_
          have hnx : md_bhs (i + 1) (mw, mh, ms, mp, ml, mb, mm, md, mc, mhi, msw, mmi, mhc, ma, mq, mt) = md_bhs i (mw, mh, ms, mp, ml, mb, mm, md, mc, mhi, msw, mmi, mhc, ma, mq, mt) := (md_bhs_s i _).trans (md_goes_n (by rw [show 256 * 0 + i = i by omega]; exact hdi.trans c3))
          rw [show (((md_bhs i (mw, mh, ms, mp, ml, mb, mm, md, mc, mhi, msw, mmi, mhc, ma, mq, mt)).1, (md_bhs i (mw, mh, ms, mp, ml, mb, mm, md, mc, mhi, msw, mmi, mhc, ma, mq, mt)).2.1, (md_bhs i (mw, mh, ms, mp, ml, mb, mm, md, mc, mhi, msw, mmi, mhc, ma, mq, mt)).2.2.1, (md_bhs i (mw, mh, ms, mp, ml, mb, mm, md, mc, mhi, msw, mmi, mhc, ma, mq, mt)).2.2.2.1, (md_bhs i (mw, mh, ms, mp, ml, mb, mm, md, mc, mhi, msw, mmi, mhc, ma, mq, mt)).2.2.2.2.1, (md_bhs i (mw, mh, ms, mp, ml, mb, mm, md, mc, mhi, msw, mmi, mhc, ma, mq, mt)).2.2.2.2.2.1, (md_bhs i (mw, mh, ms, mp, ml, mb, mm, md, mc, mhi, msw, mmi, mhc, ma, mq, mt)).2.2.2.2.2.2.1, (md_bhs i (mw, mh, ms, mp, ml, mb, mm, md, mc, mhi, msw, mmi, mhc, ma, mq, mt)).2.2.2.2.2.2.2.1, (md_bhs i (mw, mh, ms, mp, ml, mb, mm, md, mc, mhi, msw, mmi, mhc, ma, mq, mt)).2.2.2.2.2.2.2.2.1, (md_bhs i (mw, mh, ms, mp, ml, mb, mm, md, mc, mhi, msw, mmi, mhc, ma, mq, mt)).2.2.2.2.2.2.2.2.2.1, (md_bhs i (mw, mh, ms, mp, ml, mb, mm, md, mc, mhi, msw, mmi, mhc, ma, mq, mt)).2.2.2.2.2.2.2.2.2.2.1, (md_bhs i (mw, mh, ms, mp, ml, mb, mm, md, mc, mhi, msw, mmi, mhc, ma, mq, mt)).2.2.2.2.2.2.2.2.2.2.2.1, (md_bhs i (mw, mh, ms, mp, ml, mb, mm, md, mc, mhi, msw, mmi, mhc, ma, mq, mt)).2.2.2.2.2.2.2.2.2.2.2.2.1, (md_bhs i (mw, mh, ms, mp, ml, mb, mm, md, mc, mhi, msw, mmi, mhc, ma, mq, mt)).2.2.2.2.2.2.2.2.2.2.2.2.2.1, (md_bhs i (mw, mh, ms, mp, ml, mb, mm, md, mc, mhi, msw, mmi, mhc, ma, mq, mt)).2.2.2.2.2.2.2.2.2.2.2.2.2.2.1, (md_bhs i (mw, mh, ms, mp, ml, mb, mm, md, mc, mhi, msw, mmi, mhc, ma, mq, mt)).2.2.2.2.2.2.2.2.2.2.2.2.2.2.2) : MDu) = md_bhs (i + 1) (mw, mh, ms, mp, ml, mb, mm, md, mc, mhi, msw, mmi, mhc, ma, mq, mt) from hnx.symm] at hP hD
          exact ih (i + 1) k _ _ _ (by omega) (by rw [cnt_n c3]; exact hk0) (by omega) hP hD hS (lv_sub hl [1, 2, 0] rfl)
        · have c3 : md i = true := by cases hh : md i; exact absurd (show bI (md i) = 1 from by first | exact c2 | (by_cases h8 : bI (md i) = 1; exact h8; exact absurd h8 c2)) (by rw [hh]; decide); rfl
          refine lv_aload_n hx hb dX3_bringsHome_21 rfl (lv_at hl 0 rfl) ?_
          refine lv_iconst (v := nI 0) hx hb dX3_bringsHome_22 (by decide) ?_
          refine lv_iload_n hx hb dX3_bringsHome_23 rfl (lv_at hl 2 rfl) ?_
          refine CtV.callV (n := 2) (q0 := 0) (ci := 3) (wc := MDc cyI h a1 a2 a3 a4 a5 a6 a7 a8 a9 a10 ((md_bhs i (mw, mh, ms, mp, ml, mb, mm, md, mc, mhi, msw, mmi, mhc, ma, mq, mt)).1, (md_bhs i (mw, mh, ms, mp, ml, mb, mm, md, mc, mhi, msw, mmi, mhc, ma, mq, mt)).2.1, (md_bhs i (mw, mh, ms, mp, ml, mb, mm, md, mc, mhi, msw, mmi, mhc, ma, mq, mt)).2.2.1, (md_bhs i (mw, mh, ms, mp, ml, mb, mm, md, mc, mhi, msw, mmi, mhc, ma, mq, mt)).2.2.2.1, (md_bhs i (mw, mh, ms, mp, ml, mb, mm, md, mc, mhi, msw, mmi, mhc, ma, mq, mt)).2.2.2.2.1, (md_bhs i (mw, mh, ms, mp, ml, mb, mm, md, mc, mhi, msw, mmi, mhc, ma, mq, mt)).2.2.2.2.2.1, (md_bhs i (mw, mh, ms, mp, ml, mb, mm, md, mc, mhi, msw, mmi, mhc, ma, mq, mt)).2.2.2.2.2.2.1, (md_bhs i (mw, mh, ms, mp, ml, mb, mm, md, mc, mhi, msw, mmi, mhc, ma, mq, mt)).2.2.2.2.2.2.2.1, (md_bhs i (mw, mh, ms, mp, ml, mb, mm, md, mc, mhi, msw, mmi, mhc, ma, mq, mt)).2.2.2.2.2.2.2.2.1, (md_bhs i (mw, mh, ms, mp, ml, mb, mm, md, mc, mhi, msw, mmi, mhc, ma, mq, mt)).2.2.2.2.2.2.2.2.2.1, (md_bhs i (mw, mh, ms, mp, ml, mb, mm, md, mc, mhi, msw, mmi, mhc, ma, mq, mt)).2.2.2.2.2.2.2.2.2.2.1, (md_bhs i (mw, mh, ms, mp, ml, mb, mm, md, mc, mhi, msw, mmi, mhc, ma, mq, mt)).2.2.2.2.2.2.2.2.2.2.2.1, (md_bhs i (mw, mh, ms, mp, ml, mb, mm, md, mc, mhi, msw, mmi, mhc, ma, mq, mt)).2.2.2.2.2.2.2.2.2.2.2.2.1, (md_bhs i (mw, mh, ms, mp, ml, mb, mm, md, mc, mhi, msw, mmi, mhc, ma, mq, mt)).2.2.2.2.2.2.2.2.2.2.2.2.2.1, (md_bhs i (mw, mh, ms, mp, ml, mb, mm, md, mc, mhi, msw, mmi, mhc, ma, mq, mt)).2.2.2.2.2.2.2.2.2.2.2.2.2.2.1, (md_bhs i (mw, mh, ms, mp, ml, mb, mm, md, mc, mhi, msw, mmi, mhc, ma, mq, mt)).2.2.2.2.2.2.2.2.2.2.2.2.2.2.2)) (wr := ([] : va_W)) (w1 := MDc cyI h a1 a2 a3 a4 a5 a6 a7 a8 a9 a10 ((md_comes 0 i (md_bhs i (mw, mh, ms, mp, ml, mb, mm, md, mc, mhi, msw, mmi, mhc, ma, mq, mt))).1, (md_comes 0 i (md_bhs i (mw, mh, ms, mp, ml, mb, mm, md, mc, mhi, msw, mmi, mhc, ma, mq, mt))).2.1, (md_comes 0 i (md_bhs i (mw, mh, ms, mp, ml, mb, mm, md, mc, mhi, msw, mmi, mhc, ma, mq, mt))).2.2.1, (md_comes 0 i (md_bhs i (mw, mh, ms, mp, ml, mb, mm, md, mc, mhi, msw, mmi, mhc, ma, mq, mt))).2.2.2.1, (md_comes 0 i (md_bhs i (mw, mh, ms, mp, ml, mb, mm, md, mc, mhi, msw, mmi, mhc, ma, mq, mt))).2.2.2.2.1, (md_comes 0 i (md_bhs i (mw, mh, ms, mp, ml, mb, mm, md, mc, mhi, msw, mmi, mhc, ma, mq, mt))).2.2.2.2.2.1, (md_comes 0 i (md_bhs i (mw, mh, ms, mp, ml, mb, mm, md, mc, mhi, msw, mmi, mhc, ma, mq, mt))).2.2.2.2.2.2.1, (md_comes 0 i (md_bhs i (mw, mh, ms, mp, ml, mb, mm, md, mc, mhi, msw, mmi, mhc, ma, mq, mt))).2.2.2.2.2.2.2.1, (md_comes 0 i (md_bhs i (mw, mh, ms, mp, ml, mb, mm, md, mc, mhi, msw, mmi, mhc, ma, mq, mt))).2.2.2.2.2.2.2.2.1, (md_comes 0 i (md_bhs i (mw, mh, ms, mp, ml, mb, mm, md, mc, mhi, msw, mmi, mhc, ma, mq, mt))).2.2.2.2.2.2.2.2.2.1, (md_comes 0 i (md_bhs i (mw, mh, ms, mp, ml, mb, mm, md, mc, mhi, msw, mmi, mhc, ma, mq, mt))).2.2.2.2.2.2.2.2.2.2.1, (md_comes 0 i (md_bhs i (mw, mh, ms, mp, ml, mb, mm, md, mc, mhi, msw, mmi, mhc, ma, mq, mt))).2.2.2.2.2.2.2.2.2.2.2.1, (md_comes 0 i (md_bhs i (mw, mh, ms, mp, ml, mb, mm, md, mc, mhi, msw, mmi, mhc, ma, mq, mt))).2.2.2.2.2.2.2.2.2.2.2.2.1, (md_comes 0 i (md_bhs i (mw, mh, ms, mp, ml, mb, mm, md, mc, mhi, msw, mmi, mhc, ma, mq, mt))).2.2.2.2.2.2.2.2.2.2.2.2.2.1, (md_comes 0 i (md_bhs i (mw, mh, ms, mp, ml, mb, mm, md, mc, mhi, msw, mmi, mhc, ma, mq, mt))).2.2.2.2.2.2.2.2.2.2.2.2.2.2.1, (md_comes 0 i (md_bhs i (mw, mh, ms, mp, ml, mb, mm, md, mc, mhi, msw, mmi, mhc, ma, mq, mt))).2.2.2.2.2.2.2.2.2.2.2.2.2.2.2)) (ws' := MDc cyI h a1 a2 a3 a4 a5 a6 a7 a8 a9 a10 ((md_comes 0 i (md_bhs i (mw, mh, ms, mp, ml, mb, mm, md, mc, mhi, msw, mmi, mhc, ma, mq, mt))).1, (md_comes 0 i (md_bhs i (mw, mh, ms, mp, ml, mb, mm, md, mc, mhi, msw, mmi, mhc, ma, mq, mt))).2.1, (md_comes 0 i (md_bhs i (mw, mh, ms, mp, ml, mb, mm, md, mc, mhi, msw, mmi, mhc, ma, mq, mt))).2.2.1, (md_comes 0 i (md_bhs i (mw, mh, ms, mp, ml, mb, mm, md, mc, mhi, msw, mmi, mhc, ma, mq, mt))).2.2.2.1, (md_comes 0 i (md_bhs i (mw, mh, ms, mp, ml, mb, mm, md, mc, mhi, msw, mmi, mhc, ma, mq, mt))).2.2.2.2.1, (md_comes 0 i (md_bhs i (mw, mh, ms, mp, ml, mb, mm, md, mc, mhi, msw, mmi, mhc, ma, mq, mt))).2.2.2.2.2.1, (md_comes 0 i (md_bhs i (mw, mh, ms, mp, ml, mb, mm, md, mc, mhi, msw, mmi, mhc, ma, mq, mt))).2.2.2.2.2.2.1, (md_comes 0 i (md_bhs i (mw, mh, ms, mp, ml, mb, mm, md, mc, mhi, msw, mmi, mhc, ma, mq, mt))).2.2.2.2.2.2.2.1, (md_comes 0 i (md_bhs i (mw, mh, ms, mp, ml, mb, mm, md, mc, mhi, msw, mmi, mhc, ma, mq, mt))).2.2.2.2.2.2.2.2.1, (md_comes 0 i (md_bhs i (mw, mh, ms, mp, ml, mb, mm, md, mc, mhi, msw, mmi, mhc, ma, mq, mt))).2.2.2.2.2.2.2.2.2.1, (md_comes 0 i (md_bhs i (mw, mh, ms, mp, ml, mb, mm, md, mc, mhi, msw, mmi, mhc, ma, mq, mt))).2.2.2.2.2.2.2.2.2.2.1, (md_comes 0 i (md_bhs i (mw, mh, ms, mp, ml, mb, mm, md, mc, mhi, msw, mmi, mhc, ma, mq, mt))).2.2.2.2.2.2.2.2.2.2.2.1, (md_comes 0 i (md_bhs i (mw, mh, ms, mp, ml, mb, mm, md, mc, mhi, msw, mmi, mhc, ma, mq, mt))).2.2.2.2.2.2.2.2.2.2.2.2.1, (md_comes 0 i (md_bhs i (mw, mh, ms, mp, ml, mb, mm, md, mc, mhi, msw, mmi, mhc, ma, mq, mt))).2.2.2.2.2.2.2.2.2.2.2.2.2.1, (md_comes 0 i (md_bhs i (mw, mh, ms, mp, ml, mb, mm, md, mc, mhi, msw, mmi, mhc, ma, mq, mt))).2.2.2.2.2.2.2.2.2.2.2.2.2.2.1, (md_comes 0 i (md_bhs i (mw, mh, ms, mp, ml, mb, mm, md, mc, mhi, msw, mmi, mhc, ma, mq, mt))).2.2.2.2.2.2.2.2.2.2.2.2.2.2.2)) (isC := [0, 1, 2, 3, 4, 5, 6, 7, 8, 9, 10]) (isR := []) (ps := [0, 1, 2, 3, 4, 5, 6, 7, 8, 9, 10]) (As := [.int (nI 0), .int (nI i)]) (rest := []) (m_comes l D cyI cyZ cyJ h a1 a2 a3 a4 a5 a6 a7 a8 a9 a10 ((md_bhs i (mw, mh, ms, mp, ml, mb, mm, md, mc, mhi, msw, mmi, mhc, ma, mq, mt)).1) ((md_bhs i (mw, mh, ms, mp, ml, mb, mm, md, mc, mhi, msw, mmi, mhc, ma, mq, mt)).2.1) ((md_bhs i (mw, mh, ms, mp, ml, mb, mm, md, mc, mhi, msw, mmi, mhc, ma, mq, mt)).2.2.1) ((md_bhs i (mw, mh, ms, mp, ml, mb, mm, md, mc, mhi, msw, mmi, mhc, ma, mq, mt)).2.2.2.1) ((md_bhs i (mw, mh, ms, mp, ml, mb, mm, md, mc, mhi, msw, mmi, mhc, ma, mq, mt)).2.2.2.2.1) ((md_bhs i (mw, mh, ms, mp, ml, mb, mm, md, mc, mhi, msw, mmi, mhc, ma, mq, mt)).2.2.2.2.2.1) ((md_bhs i (mw, mh, ms, mp, ml, mb, mm, md, mc, mhi, msw, mmi, mhc, ma, mq, mt)).2.2.2.2.2.2.1) ((md_bhs i (mw, mh, ms, mp, ml, mb, mm, md, mc, mhi, msw, mmi, mhc, ma, mq, mt)).2.2.2.2.2.2.2.1) ((md_bhs i (mw, mh, ms, mp, ml, mb, mm, md, mc, mhi, msw, mmi, mhc, ma, mq, mt)).2.2.2.2.2.2.2.2.1) ((md_bhs i (mw, mh, ms, mp, ml, mb, mm, md, mc, mhi, msw, mmi, mhc, ma, mq, mt)).2.2.2.2.2.2.2.2.2.1) ((md_bhs i (mw, mh, ms, mp, ml, mb, mm, md, mc, mhi, msw, mmi, mhc, ma, mq, mt)).2.2.2.2.2.2.2.2.2.2.1) ((md_bhs i (mw, mh, ms, mp, ml, mb, mm, md, mc, mhi, msw, mmi, mhc, ma, mq, mt)).2.2.2.2.2.2.2.2.2.2.2.1) ((md_bhs i (mw, mh, ms, mp, ml, mb, mm, md, mc, mhi, msw, mmi, mhc, ma, mq, mt)).2.2.2.2.2.2.2.2.2.2.2.2.1) ((md_bhs i (mw, mh, ms, mp, ml, mb, mm, md, mc, mhi, msw, mmi, mhc, ma, mq, mt)).2.2.2.2.2.2.2.2.2.2.2.2.2.1) ((md_bhs i (mw, mh, ms, mp, ml, mb, mm, md, mc, mhi, msw, mmi, mhc, ma, mq, mt)).2.2.2.2.2.2.2.2.2.2.2.2.2.2.1) ((md_bhs i (mw, mh, ms, mp, ml, mb, mm, md, mc, mhi, msw, mmi, mhc, ma, mq, mt)).2.2.2.2.2.2.2.2.2.2.2.2.2.2.2) 0 i (by decide) (by omega)) ⟨hx, hb, hown, hts⟩ gX3_bringsHome_X3_comesHome rfl ⟨rfl, by decide, by decide, by decide +kernel⟩ ⟨Nat.le_of_ble_eq_true rfl, Nat.le_of_ble_eq_true rfl⟩ ⟨rfl, rfl⟩ hml hl.1 hK hP hD hS hA ⟨rfl, rfl, rfl, rfl, rfl, rfl, rfl⟩ rfl ⟨rfl, rfl⟩ rfl rfl (Nat.le_of_ble_eq_true rfl) ⟨Nat.zero_le _, Nat.zero_le _⟩ dX3_bringsHome_24 (fun H locs hP hD hS => ?_)
          refine lv_iinc (v := nI (k + 1)) (lv' := [(1, .int (nI (k + 1))), (0, .ref h), (2, .int (nI i))]) hx hb dX3_bringsHome_27 hl (k := 1) rfl (inc1 _) (by decide) rfl (fun ls hl => ?_)
          refine lv_iinc (v := nI (i + 1)) (lv' := [(2, .int (nI (i + 1))), (1, .int (nI (k + 1))), (0, .ref h)]) hx hb dX3_bringsHome_30 hl (k := 2) rfl (inc1 _) (by decide) rfl (fun ls hl => ?_)
          refine lv_goto (tgt := 4) hx hb dX3_bringsHome_33 (by decide) ?_
          have hnx : md_bhs (i + 1) (mw, mh, ms, mp, ml, mb, mm, md, mc, mhi, msw, mmi, mhc, ma, mq, mt) = md_comes 0 i (md_bhs i (mw, mh, ms, mp, ml, mb, mm, md, mc, mhi, msw, mmi, mhc, ma, mq, mt)) := (md_bhs_s i _).trans (md_goes_y (by rw [show 256 * 0 + i = i by omega]; exact hdi.trans c3))
          rw [show (((md_comes 0 i (md_bhs i (mw, mh, ms, mp, ml, mb, mm, md, mc, mhi, msw, mmi, mhc, ma, mq, mt))).1, (md_comes 0 i (md_bhs i (mw, mh, ms, mp, ml, mb, mm, md, mc, mhi, msw, mmi, mhc, ma, mq, mt))).2.1, (md_comes 0 i (md_bhs i (mw, mh, ms, mp, ml, mb, mm, md, mc, mhi, msw, mmi, mhc, ma, mq, mt))).2.2.1, (md_comes 0 i (md_bhs i (mw, mh, ms, mp, ml, mb, mm, md, mc, mhi, msw, mmi, mhc, ma, mq, mt))).2.2.2.1, (md_comes 0 i (md_bhs i (mw, mh, ms, mp, ml, mb, mm, md, mc, mhi, msw, mmi, mhc, ma, mq, mt))).2.2.2.2.1, (md_comes 0 i (md_bhs i (mw, mh, ms, mp, ml, mb, mm, md, mc, mhi, msw, mmi, mhc, ma, mq, mt))).2.2.2.2.2.1, (md_comes 0 i (md_bhs i (mw, mh, ms, mp, ml, mb, mm, md, mc, mhi, msw, mmi, mhc, ma, mq, mt))).2.2.2.2.2.2.1, (md_comes 0 i (md_bhs i (mw, mh, ms, mp, ml, mb, mm, md, mc, mhi, msw, mmi, mhc, ma, mq, mt))).2.2.2.2.2.2.2.1, (md_comes 0 i (md_bhs i (mw, mh, ms, mp, ml, mb, mm, md, mc, mhi, msw, mmi, mhc, ma, mq, mt))).2.2.2.2.2.2.2.2.1, (md_comes 0 i (md_bhs i (mw, mh, ms, mp, ml, mb, mm, md, mc, mhi, msw, mmi, mhc, ma, mq, mt))).2.2.2.2.2.2.2.2.2.1, (md_comes 0 i (md_bhs i (mw, mh, ms, mp, ml, mb, mm, md, mc, mhi, msw, mmi, mhc, ma, mq, mt))).2.2.2.2.2.2.2.2.2.2.1, (md_comes 0 i (md_bhs i (mw, mh, ms, mp, ml, mb, mm, md, mc, mhi, msw, mmi, mhc, ma, mq, mt))).2.2.2.2.2.2.2.2.2.2.2.1, (md_comes 0 i (md_bhs i (mw, mh, ms, mp, ml, mb, mm, md, mc, mhi, msw, mmi, mhc, ma, mq, mt))).2.2.2.2.2.2.2.2.2.2.2.2.1, (md_comes 0 i (md_bhs i (mw, mh, ms, mp, ml, mb, mm, md, mc, mhi, msw, mmi, mhc, ma, mq, mt))).2.2.2.2.2.2.2.2.2.2.2.2.2.1, (md_comes 0 i (md_bhs i (mw, mh, ms, mp, ml, mb, mm, md, mc, mhi, msw, mmi, mhc, ma, mq, mt))).2.2.2.2.2.2.2.2.2.2.2.2.2.2.1, (md_comes 0 i (md_bhs i (mw, mh, ms, mp, ml, mb, mm, md, mc, mhi, msw, mmi, mhc, ma, mq, mt))).2.2.2.2.2.2.2.2.2.2.2.2.2.2.2) : MDu) = md_bhs (i + 1) (mw, mh, ms, mp, ml, mb, mm, md, mc, mhi, msw, mmi, mhc, ma, mq, mt) from hnx.symm] at hP hD
          exact ih (i + 1) (k + 1) _ _ _ (by omega) (by rw [cnt_s c3, hk0]) (by omega) hP hD hS (lv_sub hl [2, 1, 0] rfl)
  exact LP4 _ 0 0 _ _ _ (Nat.zero_le _) rfl (Nat.lt_succ_self _) hP hD hS (lv_sub hl [2, 1, 0] rfl)
abbrev rmX3_bringHome : Room := { frames := 2, cells := 0, slots := 0, locals := 45 }
set_option maxRecDepth 100000 in
set_option maxHeartbeats 4000000 in
theorem m_bringHome (l : Launch) (D : va_G) (cyI cyZ cyJ : ClassId) (h a1 a2 a3 a4 a5 a6 a7 a8 a9 a10 : Nat) (mw : Nat → Int32) (mh : Nat → Int32) (ms : Nat → Nat) (mp : Nat → Nat) (ml : Nat → Option Nat) (mb : Nat → Nat) (mm : Nat → Nat) (md : Nat → Bool) (mc : Nat → Int32) (mhi : Int32) (msw : Int32) (mmi : Int32) (mhc : Int32) (ma : Nat → Nat) (mq : Nat) (mt : Nat)  : CtI l yX3_bringHome wsX3_bringHome rmX3_bringHome D (T3 cyI cyZ cyJ) [.ref h] (MDc cyI h a1 a2 a3 a4 a5 a6 a7 a8 a9 a10 (mw, mh, ms, mp, ml, mb, mm, md, mc, mhi, msw, mmi, mhc, ma, mq, mt)) (nI (cnt md 256)) (MDc cyI h a1 a2 a3 a4 a5 a6 a7 a8 a9 a10 (md_all (md_thr 0 (mw, mh, ms, mp, ml, mb, mm, md, mc, mhi, msw, mmi, mhc, ma, mq, mt)))) := by
  refine CtI.of (cc := cX3_bringHome) (maxL := 1) (ret := (some .int)) (lv0 := [(0, .ref h)]) (by decide) rfl (Nat.le_of_ble_eq_true rfl) rfl ?_
  intro p e s m below meth c A ls args Q hx hb hml hr hlk hts hown hK hP hA hD hS hl hQ
  have hown : s.vm.findClass RX3 = some m.cls := hown
  have hi_RX3 : ∀ w ∈ wsX30, w ∈ wsX3_bringHome := by decide +kernel
  have hf_44 := hts (.fieldLink RX3 44 "OutcastBenchModel" "thrown" "I") (by decide +kernel)
  refine lv_aload_n hx hb dX3_bringHome_0 rfl (lv_at hl 0 rfl) ?_
  refine lv_iconst (v := nI 0) hx hb dX3_bringHome_1 (by decide) ?_
  refine mq_put (D := D) (ci := 3) (v := .int (nI 0)) (ty := .int) (C := RX3) (T := TX3) (N := 16) (ws' := MDc cyI h a1 a2 a3 a4 a5 a6 a7 a8 a9 a10 (mw, mh, ms, mp, ml, mb, mm, md, mc, mhi, msw, mmi, mhc, ma, mq, 0)) hx hb hts hi_RX3 tyX3 tyX3_ok nmX3 hown hK hP hD hS 0 rfl rfl 15 (by decide) hf_44 (fun _ h9 => h9) rfl (by decide +kernel) rfl rfl (Nat.le_of_ble_eq_true rfl) dX3_bringHome_2 rfl (fun H locs hP hD hS => ?_)
  refine lv_aload_n hx hb dX3_bringHome_5 rfl (lv_at hl 0 rfl) ?_
  obtain ⟨⟨mw1, mh1, ms1, mp1, ml1, mb1, mm1, md1, mc1, mhi1, msw1, mmi1, mhc1, ma1, mq1, mt1⟩, hv1⟩ : ∃ z : MDu, z = md_all (mw, mh, ms, mp, ml, mb, mm, md, mc, mhi, msw, mmi, mhc, ma, mq, 0) := ⟨_, rfl⟩
  have hT := m_brings l D cyI cyZ cyJ h a1 a2 a3 a4 a5 a6 a7 a8 a9 a10 mw mh ms mp ml mb mm md mc mhi msw mmi mhc ma mq 0
  rw [← hv1] at hT
  refine CtI.callV (n := 0) (q0 := 0) (ci := 3) (wc := MDc cyI h a1 a2 a3 a4 a5 a6 a7 a8 a9 a10 (mw, mh, ms, mp, ml, mb, mm, md, mc, mhi, msw, mmi, mhc, ma, mq, 0)) (wr := ([] : va_W)) (w1 := MDc cyI h a1 a2 a3 a4 a5 a6 a7 a8 a9 a10 (mw1, mh1, ms1, mp1, ml1, mb1, mm1, md1, mc1, mhi1, msw1, mmi1, mhc1, ma1, mq1, mt1)) (ws' := MDc cyI h a1 a2 a3 a4 a5 a6 a7 a8 a9 a10 (mw1, mh1, ms1, mp1, ml1, mb1, mm1, md1, mc1, mhi1, msw1, mmi1, mhc1, ma1, mq1, mt1)) (isC := [0, 1, 2, 3, 4, 5, 6, 7, 8, 9, 10]) (isR := []) (ps := [0, 1, 2, 3, 4, 5, 6, 7, 8, 9, 10]) (As := []) (rest := []) (hT) ⟨hx, hb, hown, hts⟩ gX3_bringHome_X3_bringsHome rfl ⟨rfl, by decide, by decide, by decide +kernel⟩ ⟨Nat.le_of_ble_eq_true rfl, Nat.le_of_ble_eq_true rfl⟩ ⟨rfl, rfl⟩ hml hl.1 hK hP hD hS hA ⟨rfl, rfl, rfl, rfl, rfl, rfl, rfl⟩ rfl ⟨rfl, rfl⟩ rfl rfl (Nat.le_of_ble_eq_true rfl) ⟨Nat.zero_le _, Nat.zero_le _⟩ dX3_bringHome_6 (fun H locs hP hD hS => ?_)
  exact CtI.ret hQ hx hb hr hlk hK hP hD hS dX3_bringHome_9 rfl (congrArg (MDc cyI h a1 a2 a3 a4 a5 a6 a7 a8 a9 a10) hv1)
abbrev rmX3_inCache : Room := { frames := 0, cells := 0, slots := 0, locals := 0 }
set_option maxRecDepth 100000 in
set_option maxHeartbeats 4000000 in
theorem m_inCache (l : Launch) (D : va_G) (cyI cyZ cyJ : ClassId) (h a1 a2 a3 a4 a5 a6 a7 a8 a9 a10 : Nat) (mw : Nat → Int32) (mh : Nat → Int32) (ms : Nat → Nat) (mp : Nat → Nat) (ml : Nat → Option Nat) (mb : Nat → Nat) (mm : Nat → Nat) (md : Nat → Bool) (mc : Nat → Int32) (mhi : Int32) (msw : Int32) (mmi : Int32) (mhc : Int32) (ma : Nat → Nat) (mq : Nat) (mt : Nat) (hms : ms 0 ≤ 16) (hml8 : ∀ s q, s < 16 → ml s = some q → q < 256) : CtI l yX3_inCache wsX3_inCache rmX3_inCache D (T3 cyI cyZ cyJ) [.ref h] (MDc cyI h a1 a2 a3 a4 a5 a6 a7 a8 a9 a10 (mw, mh, ms, mp, ml, mb, mm, md, mc, mhi, msw, mmi, mhc, ma, mq, mt)) (nI (cnt (fun s => (ml s).isSome) (ms 0))) (MDc cyI h a1 a2 a3 a4 a5 a6 a7 a8 a9 a10 (mw, mh, ms, mp, ml, mb, mm, md, mc, mhi, msw, mmi, mhc, ma, mq, mt)) := by
  refine CtI.of (cc := cX3_inCache) (maxL := 3) (ret := (some .int)) (lv0 := [(0, .ref h)]) (by decide) rfl (Nat.le_of_ble_eq_true rfl) rfl ?_
  intro p e s m below meth c A ls args Q hx hb hml hr hlk hts hown hK hP hA hD hS hl hQ
  have hown : s.vm.findClass RX3 = some m.cls := hown
  have hi_RX3 : ∀ w ∈ wsX30, w ∈ wsX3_inCache := by decide +kernel
  have hf_16 := hts (.fieldLink RX3 16 "OutcastBenchModel" "sets" "[I") (by decide +kernel)
  have hf_22 := hts (.fieldLink RX3 22 "OutcastBenchModel" "lineOf" "[I") (by decide +kernel)
  refine lv_iconst (v := nI 0) hx hb dX3_inCache_0 (by decide) ?_
  refine lv_istore_n (lv' := [(1, .int (nI 0)), (0, .ref h)]) hx hb dX3_inCache_1 rfl hl (by decide) rfl (fun ls hl => ?_)
  refine lv_iconst (v := nI 0) hx hb dX3_inCache_2 (by decide) ?_
  refine lv_istore_n (lv' := [(2, .int (nI 0)), (1, .int (nI 0)), (0, .ref h)]) hx hb dX3_inCache_3 rfl hl (by decide) rfl (fun ls hl => ?_)
  have LP4 : ∀ (fu : Nat) (i : Nat) (k : Nat) (H : Heap) (locs : List Loc) (ls : Array Slot), (i ≤ ms 0) → (k = cnt (fun s => (ml s).isSome) i) → ms 0 - i < fu → va_P D vwCl (MDc cyI h a1 a2 a3 a4 a5 a6 a7 a8 a9 a10 (mw, mh, ms, mp, ml, mb, mm, md, mc, mhi, msw, mmi, mhc, ma, mq, mt)) H → va_D A (MDc cyI h a1 a2 a3 a4 a5 a6 a7 a8 a9 a10 (mw, mh, ms, mp, ml, mb, mm, md, mc, mhi, msw, mmi, mhc, ma, mq, mt)) → va_S A s.heap H locs → lv_has ls 3 [(0, .ref h), (1, .int (nI k)), (2, .int (nI i))] → W p l e rmX3_inCache s m args below meth c H locs 0 0 Q (F0 m 4 ls []) := by
    intro fu
    induction fu with
    | zero =>
      intro i k H locs ls h2 hk0 hfu
      exact absurd hfu (Nat.not_lt_zero _)
    | succ fu ih =>
      intro i k H locs ls h2 hk0 hfu hP hD hS hl
      refine lv_iload_n hx hb dX3_inCache_4 rfl (lv_at hl 2 rfl) ?_
      refine lv_aload_n hx hb dX3_inCache_5 rfl (lv_at hl 0 rfl) ?_
      refine va_get (D := D) (ci := 3) (v := .ref a3) (C := RX3) (T := TX3) (N := 16) hx hb hts hi_RX3 hown hK hP 0 rfl rfl 2 (by decide) hf_16 (fun _ h9 => h9) rfl dX3_inCache_6 ?_
      refine lv_iconst (v := nI 0) hx hb dX3_inCache_9 (by decide) ?_
      refine mq_ld (k := 0) nI ms hx hb hK hP 3 0 rfl rfl (by omega) (Nat.le_of_ble_eq_true rfl) dX3_inCache_10 ?_
      refine mq_ge (x := i) (y := (ms 0)) (tgt := 37) (by omega) (by omega) hx hb dX3_inCache_11 (by decide) (fun c1 => ?_) (fun c1 => ?_)
      · have e : i = ms 0 := by omega
        refine lv_iload_n hx hb dX3_inCache_37 rfl (lv_at hl 1 rfl) ?_
        exact CtI.ret hQ hx hb hr hlk hK hP hD hS dX3_inCache_38 (by rw [hk0, e]) rfl
      · refine lv_iload_n hx hb dX3_inCache_14 rfl (lv_at hl 1 rfl) ?_
        refine lv_aload_n hx hb dX3_inCache_15 rfl (lv_at hl 0 rfl) ?_
        refine va_get (D := D) (ci := 3) (v := .ref a5) (C := RX3) (T := TX3) (N := 16) hx hb hts hi_RX3 hown hK hP 0 rfl rfl 4 (by decide) hf_22 (fun _ h9 => h9) rfl dX3_inCache_16 ?_
        refine lv_iload_n hx hb dX3_inCache_19 rfl (lv_at hl 2 rfl) ?_
        refine mq_ld (k := i) oI ml hx hb hK hP 5 0 rfl rfl (by omega) (Nat.le_of_ble_eq_true rfl) dX3_inCache_20 ?_
        rcases hls : ml i with _ | q
        · refine lv_if_lt (x := oI none) (tgt := 28) hx hb dX3_inCache_21 (by decide) (fun c2 => ?_) (fun c2 => ?_)
          · refine lv_iconst (v := nI 0) hx hb dX3_inCache_28 (by decide) ?_
            refine mq_iadd (x := k) (y := 0) hx hb dX3_inCache_29 ?_
            refine lv_istore_n (lv' := [(1, .int (nI (k + 0))), (0, .ref h), (2, .int (nI i))]) hx hb dX3_inCache_30 rfl hl (by decide) rfl (fun ls hl => ?_)
            refine lv_iinc (v := nI (i + 1)) (lv' := [(2, .int (nI (i + 1))), (1, .int (nI (k + 0))), (0, .ref h)]) hx hb dX3_inCache_31 hl (k := 2) rfl (inc1 _) (by decide) rfl (fun ls hl => ?_)
            refine lv_goto (tgt := 4) hx hb dX3_inCache_34 (by decide) ?_
            exact ih (i + 1) (k + 0) _ _ _ (by omega) (by rw [cnt_n (by simp [hls]), hk0]; rfl) (by omega) hP hD hS (lv_sub hl [2, 1, 0] rfl)
          · exact absurd (show oI none < 0 by decide) c2
        · refine lv_if_lt (x := nI q) (tgt := 28) hx hb dX3_inCache_21 (by decide) (fun c2 => ?_) (fun c2 => ?_)
          · exact absurd c2 (nI_pos (by have := hml8 i q (by omega) hls; omega))
          · refine lv_iconst (v := nI 1) hx hb dX3_inCache_24 (by decide) ?_
            refine lv_goto (tgt := 29) hx hb dX3_inCache_25 (by decide) ?_
            refine mq_iadd (x := k) (y := 1) hx hb dX3_inCache_29 ?_
            refine lv_istore_n (lv' := [(1, .int (nI (k + 1))), (0, .ref h), (2, .int (nI i))]) hx hb dX3_inCache_30 rfl hl (by decide) rfl (fun ls hl => ?_)
            refine lv_iinc (v := nI (i + 1)) (lv' := [(2, .int (nI (i + 1))), (1, .int (nI (k + 1))), (0, .ref h)]) hx hb dX3_inCache_31 hl (k := 2) rfl (inc1 _) (by decide) rfl (fun ls hl => ?_)
            refine lv_goto (tgt := 4) hx hb dX3_inCache_34 (by decide) ?_
            exact ih (i + 1) (k + 1) _ _ _ (by omega) (by rw [cnt_s (by simp [hls]), hk0]) (by omega) hP hD hS (lv_sub hl [2, 1, 0] rfl)
  exact LP4 _ 0 0 _ _ _ (Nat.zero_le _) rfl (Nat.lt_succ_self _) hP hD hS (lv_sub hl [2, 1, 0] rfl)
abbrev rmX3_build : Room := { frames := 2, cells := 0, slots := 0, locals := 45 }
set_option maxRecDepth 100000 in
set_option maxHeartbeats 4000000 in
theorem m_build (l : Launch) (D : va_G) (cyI cyZ cyJ : ClassId) (h a1 a2 a3 a4 a5 a6 a7 a8 a9 a10 : Nat) (mw : Nat → Int32) (mh : Nat → Int32) (ms : Nat → Nat) (mp : Nat → Nat) (ml : Nat → Option Nat) (mb : Nat → Nat) (mm : Nat → Nat) (md : Nat → Bool) (mc : Nat → Int32) (mhi : Int32) (msw : Int32) (mmi : Int32) (mhc : Int32) (ma : Nat → Nat) (mq : Nat) (mt : Nat) (s' p' : Nat) (hb9 : md_bd 0 (mw, mh, ms, mp, ml, mb, mm, md, mc, mhi, msw, mmi, mhc, ma, mq, mt)) (hs : s' = 1 ∨ s' = 2 ∨ s' = 4 ∨ s' = 8 ∨ s' = 16) (hp : p' ≤ 8) : CtI l yX3_build wsX3_build rmX3_build D (T3 cyI cyZ cyJ) [.ref h, .int (nI s'), .int (nI p')] (MDc cyI h a1 a2 a3 a4 a5 a6 a7 a8 a9 a10 (mw, mh, ms, mp, ml, mb, mm, md, mc, mhi, msw, mmi, mhc, ma, mq, mt)) (nI (md_lines (mw, mh, ms, mp, ml, mb, mm, md, mc, mhi, msw, mmi, mhc, ma, mq, mt))) (MDc cyI h a1 a2 a3 a4 a5 a6 a7 a8 a9 a10 (md_size 0 s' p' (md_empties 0 (md_all (md_thr 0 (mw, mh, ms, mp, ml, mb, mm, md, mc, mhi, msw, mmi, mhc, ma, mq, mt)))))) := by
  refine CtI.of (cc := cX3_build) (maxL := 5) (ret := (some .int)) (lv0 := [(0, .ref h), (1, .int (nI s')), (2, .int (nI p'))]) (by decide) rfl (Nat.le_of_ble_eq_true rfl) rfl ?_
  intro p e s m below meth c A ls args Q hx hb hml hr hlk hts hown hK hP hA hD hS hl hQ
  have hown : s.vm.findClass RX3 = some m.cls := hown
  have hi_RX3 : ∀ w ∈ wsX30, w ∈ wsX3_build := by decide +kernel
  have hf_16 := hts (.fieldLink RX3 16 "OutcastBenchModel" "sets" "[I") (by decide +kernel)
  have hf_19 := hts (.fieldLink RX3 19 "OutcastBenchModel" "places" "[I") (by decide +kernel)
  have hf_28 := hts (.fieldLink RX3 28 "OutcastBenchModel" "many" "[I") (by decide +kernel)
  have hf_44 := hts (.fieldLink RX3 44 "OutcastBenchModel" "thrown" "I") (by decide +kernel)
  have hb0 := hb9
  obtain ⟨hms, hmp, hmm, hml8, hmb8⟩ := hb0
  refine lv_aload_n hx hb dX3_build_0 rfl (lv_at hl 0 rfl) ?_
  refine lv_iload_n hx hb dX3_build_1 rfl (lv_at hl 1 rfl) ?_
  refine lv_iload_n hx hb dX3_build_2 rfl (lv_at hl 2 rfl) ?_
  refine CtI.callS (n := 2) (wc := ([] : va_W)) (wr := MDc cyI h a1 a2 a3 a4 a5 a6 a7 a8 a9 a10 (mw, mh, ms, mp, ml, mb, mm, md, mc, mhi, msw, mmi, mhc, ma, mq, mt)) (w1 := ([] : va_W)) (ws' := MDc cyI h a1 a2 a3 a4 a5 a6 a7 a8 a9 a10 (mw, mh, ms, mp, ml, mb, mm, md, mc, mhi, msw, mmi, mhc, ma, mq, mt)) (isC := []) (isR := [0, 1, 2, 3, 4, 5, 6, 7, 8, 9, 10]) (ps := [0, 1, 2, 3, 4, 5, 6, 7, 8, 9, 10]) (As := [.int (nI s'), .int (nI p')]) (rest := [.ref h]) (m_isSize l D cyI cyZ cyJ s' p' hs hp) ⟨hx, hb, hown, hts⟩ gX3_build_X3_isSize rfl ⟨by decide, by decide, by decide +kernel⟩ ⟨Nat.le_of_ble_eq_true rfl, Nat.le_of_ble_eq_true rfl⟩ ⟨rfl, rfl⟩ hml hl.1 hK hP hD hS hA ⟨rfl, rfl, rfl, rfl, rfl, rfl, rfl⟩ rfl rfl (Nat.le_of_ble_eq_true rfl) ⟨Nat.zero_le _, Nat.zero_le _⟩ dX3_build_3 (fun H locs hP hD hS => ?_)
  refine mq_bz (b := true) (tgt := 13) hx hb dX3_build_6 (by decide) (fun c1 => ?_) (fun c1 => ?_)
  · exact absurd c1 (by decide)
  · refine lv_iconst (v := nI 0) hx hb dX3_build_9 (by decide) ?_
    refine lv_goto (tgt := 14) hx hb dX3_build_10 (by decide) ?_
    refine mq_put (D := D) (ci := 3) (v := .int (nI 0)) (ty := .int) (C := RX3) (T := TX3) (N := 16) (ws' := MDc cyI h a1 a2 a3 a4 a5 a6 a7 a8 a9 a10 (mw, mh, ms, mp, ml, mb, mm, md, mc, mhi, msw, mmi, mhc, ma, mq, 0)) hx hb hts hi_RX3 tyX3 tyX3_ok nmX3 hown hK hP hD hS 0 rfl rfl 15 (by decide) hf_44 (fun _ h9 => h9) rfl (by decide +kernel) rfl rfl (Nat.le_of_ble_eq_true rfl) dX3_build_14 rfl (fun H locs hP hD hS => ?_)
    refine lv_aload_n hx hb dX3_build_17 rfl (lv_at hl 0 rfl) ?_
    refine va_get (D := D) (ci := 3) (v := .int (nI 0)) (C := RX3) (T := TX3) (N := 16) hx hb hts hi_RX3 hown hK hP 0 rfl rfl 15 (by decide) hf_44 (fun _ h9 => h9) rfl dX3_build_18 ?_
    refine mq_z (x := 0) (tgt := 26) (by omega) hx hb dX3_build_21 (by decide) (fun c2 => ?_) (fun c2 => ?_)
    · refine lv_aload_n hx hb dX3_build_26 rfl (lv_at hl 0 rfl) ?_
      obtain ⟨⟨mw1, mh1, ms1, mp1, ml1, mb1, mm1, md1, mc1, mhi1, msw1, mmi1, mhc1, ma1, mq1, mt1⟩, hv1⟩ : ∃ z : MDu, z = md_all (mw, mh, ms, mp, ml, mb, mm, md, mc, mhi, msw, mmi, mhc, ma, mq, 0) := ⟨_, rfl⟩
      have hT := m_brings l D cyI cyZ cyJ h a1 a2 a3 a4 a5 a6 a7 a8 a9 a10 mw mh ms mp ml mb mm md mc mhi msw mmi mhc ma mq 0
      rw [← hv1] at hT
      obtain ⟨e1, e2, e3⟩ := md_all_many (mw, mh, ms, mp, ml, mb, mm, md, mc, mhi, msw, mmi, mhc, ma, mq, 0)
      rw [← hv1] at e1 e2 e3
      have e1 : mm1 = mm := e1
      have e2 : ms1 = ms := e2
      have e3 : ml1 = ml := e3
      refine CtI.callV (n := 0) (q0 := 0) (ci := 3) (wc := MDc cyI h a1 a2 a3 a4 a5 a6 a7 a8 a9 a10 (mw, mh, ms, mp, ml, mb, mm, md, mc, mhi, msw, mmi, mhc, ma, mq, 0)) (wr := ([] : va_W)) (w1 := MDc cyI h a1 a2 a3 a4 a5 a6 a7 a8 a9 a10 (mw1, mh1, ms1, mp1, ml1, mb1, mm1, md1, mc1, mhi1, msw1, mmi1, mhc1, ma1, mq1, mt1)) (ws' := MDc cyI h a1 a2 a3 a4 a5 a6 a7 a8 a9 a10 (mw1, mh1, ms1, mp1, ml1, mb1, mm1, md1, mc1, mhi1, msw1, mmi1, mhc1, ma1, mq1, mt1)) (isC := [0, 1, 2, 3, 4, 5, 6, 7, 8, 9, 10]) (isR := []) (ps := [0, 1, 2, 3, 4, 5, 6, 7, 8, 9, 10]) (As := []) (rest := []) (hT) ⟨hx, hb, hown, hts⟩ gX3_build_X3_bringsHome rfl ⟨rfl, by decide, by decide, by decide +kernel⟩ ⟨Nat.le_of_ble_eq_true rfl, Nat.le_of_ble_eq_true rfl⟩ ⟨rfl, rfl⟩ hml hl.1 hK hP hD hS hA ⟨rfl, rfl, rfl, rfl, rfl, rfl, rfl⟩ rfl ⟨rfl, rfl⟩ rfl rfl (Nat.le_of_ble_eq_true rfl) ⟨Nat.zero_le _, Nat.zero_le _⟩ dX3_build_27 (fun H locs hP hD hS => ?_)
      refine lv_istore_n (lv' := [(3, .int (nI (cnt md 256))), (0, .ref h), (1, .int (nI s')), (2, .int (nI p'))]) hx hb dX3_build_30 rfl hl (by decide) rfl (fun ls hl => ?_)
      refine lv_aload_n hx hb dX3_build_31 rfl (lv_at hl 1 rfl) ?_
      refine CtI.callV (n := 0) (q0 := 0) (ci := 3) (wc := MDc cyI h a1 a2 a3 a4 a5 a6 a7 a8 a9 a10 (mw1, mh1, ms1, mp1, ml1, mb1, mm1, md1, mc1, mhi1, msw1, mmi1, mhc1, ma1, mq1, mt1)) (wr := ([] : va_W)) (w1 := MDc cyI h a1 a2 a3 a4 a5 a6 a7 a8 a9 a10 (mw1, mh1, ms1, mp1, ml1, mb1, mm1, md1, mc1, mhi1, msw1, mmi1, mhc1, ma1, mq1, mt1)) (ws' := MDc cyI h a1 a2 a3 a4 a5 a6 a7 a8 a9 a10 (mw1, mh1, ms1, mp1, ml1, mb1, mm1, md1, mc1, mhi1, msw1, mmi1, mhc1, ma1, mq1, mt1)) (isC := [0, 1, 2, 3, 4, 5, 6, 7, 8, 9, 10]) (isR := []) (ps := [0, 1, 2, 3, 4, 5, 6, 7, 8, 9, 10]) (As := []) (rest := []) (m_inCache l D cyI cyZ cyJ h a1 a2 a3 a4 a5 a6 a7 a8 a9 a10 mw1 mh1 ms1 mp1 ml1 mb1 mm1 md1 mc1 mhi1 msw1 mmi1 mhc1 ma1 mq1 mt1 (by rw [e2]; omega) (fun s q h1 h2 => hml8 s q h1 (by rw [show 16 * 0 + s = s by omega, ← e3]; exact h2))) ⟨hx, hb, hown, hts⟩ gX3_build_X3_inCache rfl ⟨rfl, by decide, by decide, by decide +kernel⟩ ⟨Nat.le_of_ble_eq_true rfl, Nat.le_of_ble_eq_true rfl⟩ ⟨rfl, rfl⟩ hml hl.1 hK hP hD hS hA ⟨rfl, rfl, rfl, rfl, rfl, rfl, rfl⟩ rfl ⟨rfl, rfl⟩ rfl rfl (Nat.le_of_ble_eq_true rfl) ⟨Nat.zero_le _, Nat.zero_le _⟩ dX3_build_32 (fun H locs hP hD hS => ?_)
      refine lv_aload_n hx hb dX3_build_35 rfl (lv_at hl 1 rfl) ?_
      refine va_get (D := D) (ci := 3) (v := .ref a7) (C := RX3) (T := TX3) (N := 16) hx hb hts hi_RX3 hown hK hP 0 rfl rfl 6 (by decide) hf_28 (fun _ h9 => h9) rfl dX3_build_36 ?_
      refine lv_iconst (v := nI 0) hx hb dX3_build_39 (by decide) ?_
      refine mq_ld (k := 0) nI mm1 hx hb hK hP 7 0 rfl rfl (by omega) (Nat.le_of_ble_eq_true rfl) dX3_build_40 ?_
      refine mq_iadd (x := (cnt (fun s => (ml1 s).isSome) (ms1 0))) (y := (mm1 0)) hx hb dX3_build_41 ?_
      refine lv_istore (lv' := [(4, .int (nI (cnt (fun s => (ml1 s).isSome) (ms1 0) + (mm1 0)))), (3, .int (nI (cnt md 256))), (0, .ref h), (1, .int (nI s')), (2, .int (nI p'))]) hx hb dX3_build_42 hl (by decide) rfl (fun ls hl => ?_)
      refine lv_aload_n hx hb dX3_build_44 rfl (lv_at hl 2 rfl) ?_
      refine lv_iconst (v := nI 0) hx hb dX3_build_45 (by decide) ?_
      refine CtV.callV (n := 1) (q0 := 0) (ci := 3) (wc := MDc cyI h a1 a2 a3 a4 a5 a6 a7 a8 a9 a10 (mw1, mh1, ms1, mp1, ml1, mb1, mm1, md1, mc1, mhi1, msw1, mmi1, mhc1, ma1, mq1, mt1)) (wr := ([] : va_W)) (w1 := MDc cyI h a1 a2 a3 a4 a5 a6 a7 a8 a9 a10 (mw1, mh1, ms1, mp1, fil ml1 (16 * 0) (16 * 0 + 16) none, mb1, ru mm1 0 0, fil md1 (256 * 0) (256 * 0 + 256) false, mc1, mhi1, msw1, mmi1, mhc1, ma1, mq1, mt1)) (ws' := MDc cyI h a1 a2 a3 a4 a5 a6 a7 a8 a9 a10 (mw1, mh1, ms1, mp1, fil ml1 (16 * 0) (16 * 0 + 16) none, mb1, ru mm1 0 0, fil md1 (256 * 0) (256 * 0 + 256) false, mc1, mhi1, msw1, mmi1, mhc1, ma1, mq1, mt1)) (isC := [0, 1, 2, 3, 4, 5, 6, 7, 8, 9, 10]) (isR := []) (ps := [0, 1, 2, 3, 4, 5, 6, 7, 8, 9, 10]) (As := [.int (nI 0)]) (rest := []) (m_empties l D cyI cyZ cyJ h a1 a2 a3 a4 a5 a6 a7 a8 a9 a10 mw1 mh1 ms1 mp1 ml1 mb1 mm1 md1 mc1 mhi1 msw1 mmi1 mhc1 ma1 mq1 mt1 0 (by decide)) ⟨hx, hb, hown, hts⟩ gX3_build_X3_empties rfl ⟨rfl, by decide, by decide, by decide +kernel⟩ ⟨Nat.le_of_ble_eq_true rfl, Nat.le_of_ble_eq_true rfl⟩ ⟨rfl, rfl⟩ hml hl.1 hK hP hD hS hA ⟨rfl, rfl, rfl, rfl, rfl, rfl, rfl⟩ rfl ⟨rfl, rfl⟩ rfl rfl (Nat.le_of_ble_eq_true rfl) ⟨Nat.zero_le _, Nat.zero_le _⟩ dX3_build_46 (fun H locs hP hD hS => ?_)
      refine lv_aload_n hx hb dX3_build_49 rfl (lv_at hl 2 rfl) ?_
      refine va_get (D := D) (ci := 3) (v := .ref a3) (C := RX3) (T := TX3) (N := 16) hx hb hts hi_RX3 hown hK hP 0 rfl rfl 2 (by decide) hf_16 (fun _ h9 => h9) rfl dX3_build_50 ?_
      refine lv_iconst (v := nI 0) hx hb dX3_build_53 (by decide) ?_
      refine lv_iload_n hx hb dX3_build_54 rfl (lv_at hl 3 rfl) ?_
      refine mq_st (k := 0) nI ms1 s' (ws' := MDc cyI h a1 a2 a3 a4 a5 a6 a7 a8 a9 a10 (mw1, mh1, ru ms1 0 s', mp1, fil ml1 (16 * 0) (16 * 0 + 16) none, mb1, ru mm1 0 0, fil md1 (256 * 0) (256 * 0 + 256) false, mc1, mhi1, msw1, mmi1, mhc1, ma1, mq1, mt1)) hx hb hK hP hD hS 3 0 rfl rfl (by omega) (Nat.le_of_ble_eq_true rfl) dX3_build_55 rfl (fun H locs hP hD hS => ?_)
      refine lv_aload_n hx hb dX3_build_56 rfl (lv_at hl 2 rfl) ?_
      refine va_get (D := D) (ci := 3) (v := .ref a4) (C := RX3) (T := TX3) (N := 16) hx hb hts hi_RX3 hown hK hP 0 rfl rfl 3 (by decide) hf_19 (fun _ h9 => h9) rfl dX3_build_57 ?_
      refine lv_iconst (v := nI 0) hx hb dX3_build_60 (by decide) ?_
      refine lv_iload_n hx hb dX3_build_61 rfl (lv_at hl 4 rfl) ?_
      refine mq_st (k := 0) nI mp1 p' (ws' := MDc cyI h a1 a2 a3 a4 a5 a6 a7 a8 a9 a10 (mw1, mh1, ru ms1 0 s', ru mp1 0 p', fil ml1 (16 * 0) (16 * 0 + 16) none, mb1, ru mm1 0 0, fil md1 (256 * 0) (256 * 0 + 256) false, mc1, mhi1, msw1, mmi1, mhc1, ma1, mq1, mt1)) hx hb hK hP hD hS 4 0 rfl rfl (by omega) (Nat.le_of_ble_eq_true rfl) dX3_build_62 rfl (fun H locs hP hD hS => ?_)
      refine lv_iload hx hb dX3_build_63 (lv_at hl 0 rfl) ?_
      exact CtI.ret hQ hx hb hr hlk hK hP hD hS dX3_build_65 (by rw [e1, e2, e3]; rfl) (congrArg (MDc cyI h a1 a2 a3 a4 a5 a6 a7 a8 a9 a10) (congrArg (fun z => md_size 0 s' p' (md_empties 0 z)) hv1))
    · exact absurd c2 (by decide)
set_option maxRecDepth 100000 in
set_option maxHeartbeats 4000000 in
theorem m_buildN (l : Launch) (D : va_G) (cyI cyZ cyJ : ClassId) (h a1 a2 a3 a4 a5 a6 a7 a8 a9 a10 : Nat) (mw : Nat → Int32) (mh : Nat → Int32) (ms : Nat → Nat) (mp : Nat → Nat) (ml : Nat → Option Nat) (mb : Nat → Nat) (mm : Nat → Nat) (md : Nat → Bool) (mc : Nat → Int32) (mhi : Int32) (msw : Int32) (mmi : Int32) (mhc : Int32) (ma : Nat → Nat) (mq : Nat) (mt : Nat) (x y : Int32) (hbad : ¬ okS x y) : CtI l yX3_build wsX3_build rmX3_build D (T3 cyI cyZ cyJ) [.ref h, .int x, .int y] (MDc cyI h a1 a2 a3 a4 a5 a6 a7 a8 a9 a10 (mw, mh, ms, mp, ml, mb, mm, md, mc, mhi, msw, mmi, mhc, ma, mq, mt)) (nI 0) (MDc cyI h a1 a2 a3 a4 a5 a6 a7 a8 a9 a10 (md_thr 1 (mw, mh, ms, mp, ml, mb, mm, md, mc, mhi, msw, mmi, mhc, ma, mq, mt))) := by
  refine CtI.of (cc := cX3_build) (maxL := 5) (ret := (some .int)) (lv0 := [(0, .ref h), (1, .int x), (2, .int y)]) (by decide) rfl (Nat.le_of_ble_eq_true rfl) rfl ?_
  intro p e s m below meth c A ls args Q hx hb hml hr hlk hts hown hK hP hA hD hS hl hQ
  have hown : s.vm.findClass RX3 = some m.cls := hown
  have hi_RX3 : ∀ w ∈ wsX30, w ∈ wsX3_build := by decide +kernel
  have hf_44 := hts (.fieldLink RX3 44 "OutcastBenchModel" "thrown" "I") (by decide +kernel)
  refine lv_aload_n hx hb dX3_build_0 rfl (lv_at hl 0 rfl) ?_
  refine lv_iload_n hx hb dX3_build_1 rfl (lv_at hl 1 rfl) ?_
  refine lv_iload_n hx hb dX3_build_2 rfl (lv_at hl 2 rfl) ?_
  refine CtI.callS (n := 2) (wc := ([] : va_W)) (wr := MDc cyI h a1 a2 a3 a4 a5 a6 a7 a8 a9 a10 (mw, mh, ms, mp, ml, mb, mm, md, mc, mhi, msw, mmi, mhc, ma, mq, mt)) (w1 := ([] : va_W)) (ws' := MDc cyI h a1 a2 a3 a4 a5 a6 a7 a8 a9 a10 (mw, mh, ms, mp, ml, mb, mm, md, mc, mhi, msw, mmi, mhc, ma, mq, mt)) (isC := []) (isR := [0, 1, 2, 3, 4, 5, 6, 7, 8, 9, 10]) (ps := [0, 1, 2, 3, 4, 5, 6, 7, 8, 9, 10]) (As := [.int x, .int y]) (rest := [.ref h]) (m_isSizeN l D cyI cyZ cyJ x y hbad) ⟨hx, hb, hown, hts⟩ gX3_build_X3_isSize rfl ⟨by decide, by decide, by decide +kernel⟩ ⟨Nat.le_of_ble_eq_true rfl, Nat.le_of_ble_eq_true rfl⟩ ⟨rfl, rfl⟩ hml hl.1 hK hP hD hS hA ⟨rfl, rfl, rfl, rfl, rfl, rfl, rfl⟩ rfl rfl (Nat.le_of_ble_eq_true rfl) ⟨Nat.zero_le _, Nat.zero_le _⟩ dX3_build_3 (fun H locs hP hD hS => ?_)
  refine mq_bz (b := false) (tgt := 13) hx hb dX3_build_6 (by decide) (fun c1 => ?_) (fun c1 => ?_)
  · refine lv_iconst (v := nI 1) hx hb dX3_build_13 (by decide) ?_
    refine mq_put (D := D) (ci := 3) (v := .int (nI 1)) (ty := .int) (C := RX3) (T := TX3) (N := 16) (ws' := MDc cyI h a1 a2 a3 a4 a5 a6 a7 a8 a9 a10 (mw, mh, ms, mp, ml, mb, mm, md, mc, mhi, msw, mmi, mhc, ma, mq, 1)) hx hb hts hi_RX3 tyX3 tyX3_ok nmX3 hown hK hP hD hS 0 rfl rfl 15 (by decide) hf_44 (fun _ h9 => h9) rfl (by decide +kernel) rfl rfl (Nat.le_of_ble_eq_true rfl) dX3_build_14 rfl (fun H locs hP hD hS => ?_)
    refine lv_aload_n hx hb dX3_build_17 rfl (lv_at hl 0 rfl) ?_
    refine va_get (D := D) (ci := 3) (v := .int (nI 1)) (C := RX3) (T := TX3) (N := 16) hx hb hts hi_RX3 hown hK hP 0 rfl rfl 15 (by decide) hf_44 (fun _ h9 => h9) rfl dX3_build_18 ?_
    refine mq_z (x := 1) (tgt := 26) (by omega) hx hb dX3_build_21 (by decide) (fun c2 => ?_) (fun c2 => ?_)
    · exact absurd c2 (by decide)
    · refine lv_iconst (v := nI 0) hx hb dX3_build_24 (by decide) ?_
      exact CtI.ret hQ hx hb hr hlk hK hP hD hS dX3_build_25 rfl (congrArg (MDc cyI h a1 a2 a3 a4 a5 a6 a7 a8 a9 a10) rfl)
  · exact absurd c1 (by decide)
abbrev rmX3_cast : Room := { frames := 3, cells := 0, slots := 0, locals := 69 }
set_option maxRecDepth 100000 in
set_option maxHeartbeats 4000000 in
theorem m_cast (l : Launch) (D : va_G) (cyI cyZ cyJ : ClassId) (h a1 a2 a3 a4 a5 a6 a7 a8 a9 a10 : Nat) (mw : Nat → Int32) (mh : Nat → Int32) (ms : Nat → Nat) (mp : Nat → Nat) (ml : Nat → Option Nat) (mb : Nat → Nat) (mm : Nat → Nat) (md : Nat → Bool) (mc : Nat → Int32) (mhi : Int32) (msw : Int32) (mmi : Int32) (mhc : Int32) (ma : Nat → Nat) (mq : Nat) (mt : Nat) (k q : Nat) (hb9 : md_bd 0 (mw, mh, ms, mp, ml, mb, mm, md, mc, mhi, msw, mmi, mhc, ma, mq, mt)) (hk : k < ms 0) (hmlq : ml k = some q) : CtI l yX3_cast wsX3_cast rmX3_cast D (T3 cyI cyZ cyJ) [.ref h, .int (nI k)] (MDc cyI h a1 a2 a3 a4 a5 a6 a7 a8 a9 a10 (mw, mh, ms, mp, ml, mb, mm, md, mc, mhi, msw, mmi, mhc, ma, mq, mt)) (nI q) (MDc cyI h a1 a2 a3 a4 a5 a6 a7 a8 a9 a10 (md_throws 0 k q (md_thr 0 (mw, mh, ms, mp, ml, mb, mm, md, mc, mhi, msw, mmi, mhc, ma, mq, mt)))) := by
  refine CtI.of (cc := cX3_cast) (maxL := 3) (ret := (some .int)) (lv0 := [(0, .ref h), (1, .int (nI k))]) (by decide) rfl (Nat.le_of_ble_eq_true rfl) rfl ?_
  intro p e s m below meth c A ls args Q hx hb hml hr hlk hts hown hK hP hA hD hS hl hQ
  have hown : s.vm.findClass RX3 = some m.cls := hown
  have hi_RX3 : ∀ w ∈ wsX30, w ∈ wsX3_cast := by decide +kernel
  have hf_22 := hts (.fieldLink RX3 22 "OutcastBenchModel" "lineOf" "[I") (by decide +kernel)
  have hf_44 := hts (.fieldLink RX3 44 "OutcastBenchModel" "thrown" "I") (by decide +kernel)
  have hb0 := hb9
  obtain ⟨hms, hmp, hmm, hml8, hmb8⟩ := hb0
  have hk16 : k < 16 := by omega
  have hq8 := hml8 k q hk16 (by rw [show 16 * 0 + k = k by omega]; exact hmlq)
  refine lv_aload_n hx hb dX3_cast_0 rfl (lv_at hl 0 rfl) ?_
  refine lv_aload_n hx hb dX3_cast_1 rfl (lv_at hl 0 rfl) ?_
  refine lv_iload_n hx hb dX3_cast_2 rfl (lv_at hl 1 rfl) ?_
  refine CtI.callV (n := 1) (q0 := 0) (ci := 3) (wc := MDc cyI h a1 a2 a3 a4 a5 a6 a7 a8 a9 a10 (mw, mh, ms, mp, ml, mb, mm, md, mc, mhi, msw, mmi, mhc, ma, mq, mt)) (wr := ([] : va_W)) (w1 := MDc cyI h a1 a2 a3 a4 a5 a6 a7 a8 a9 a10 (mw, mh, ms, mp, ml, mb, mm, md, mc, mhi, msw, mmi, mhc, ma, mq, mt)) (ws' := MDc cyI h a1 a2 a3 a4 a5 a6 a7 a8 a9 a10 (mw, mh, ms, mp, ml, mb, mm, md, mc, mhi, msw, mmi, mhc, ma, mq, mt)) (isC := [0, 1, 2, 3, 4, 5, 6, 7, 8, 9, 10]) (isR := []) (ps := [0, 1, 2, 3, 4, 5, 6, 7, 8, 9, 10]) (As := [.int (nI k)]) (rest := [.ref h]) (m_isSet l D cyI cyZ cyJ h a1 a2 a3 a4 a5 a6 a7 a8 a9 a10 mw mh ms mp ml mb mm md mc mhi msw mmi mhc ma mq mt k (by omega) hk) ⟨hx, hb, hown, hts⟩ gX3_cast_X3_isSet rfl ⟨rfl, by decide, by decide, by decide +kernel⟩ ⟨Nat.le_of_ble_eq_true rfl, Nat.le_of_ble_eq_true rfl⟩ ⟨rfl, rfl⟩ hml hl.1 hK hP hD hS hA ⟨rfl, rfl, rfl, rfl, rfl, rfl, rfl⟩ rfl ⟨rfl, rfl⟩ rfl rfl (Nat.le_of_ble_eq_true rfl) ⟨Nat.zero_le _, Nat.zero_le _⟩ dX3_cast_3 (fun H locs hP hD hS => ?_)
  refine mq_bnz (b := true) (tgt := 13) hx hb dX3_cast_6 (by decide) (fun c1 => ?_) (fun c1 => ?_)
  · refine lv_aload_n hx hb dX3_cast_13 rfl (lv_at hl 0 rfl) ?_
    refine va_get (D := D) (ci := 3) (v := .ref a5) (C := RX3) (T := TX3) (N := 16) hx hb hts hi_RX3 hown hK hP 0 rfl rfl 4 (by decide) hf_22 (fun _ h9 => h9) rfl dX3_cast_14 ?_
    refine lv_iload_n hx hb dX3_cast_17 rfl (lv_at hl 1 rfl) ?_
    refine mq_ld (k := k) oI ml hx hb hK hP 5 0 rfl rfl (by omega) (Nat.le_of_ble_eq_true rfl) dX3_cast_18 ?_
    rw [show oI (ml k) = nI q from (by rw [hmlq]; rfl)]
    refine lv_if_ge (x := nI q) (tgt := 26) hx hb dX3_cast_19 (by decide) (fun c5 => ?_) (fun c5 => ?_)
    · refine lv_iconst (v := nI 0) hx hb dX3_cast_26 (by decide) ?_
      refine mq_put (D := D) (ci := 3) (v := .int (nI 0)) (ty := .int) (C := RX3) (T := TX3) (N := 16) (ws' := MDc cyI h a1 a2 a3 a4 a5 a6 a7 a8 a9 a10 (mw, mh, ms, mp, ml, mb, mm, md, mc, mhi, msw, mmi, mhc, ma, mq, 0)) hx hb hts hi_RX3 tyX3 tyX3_ok nmX3 hown hK hP hD hS 0 rfl rfl 15 (by decide) hf_44 (fun _ h9 => h9) rfl (by decide +kernel) rfl rfl (Nat.le_of_ble_eq_true rfl) dX3_cast_27 rfl (fun H locs hP hD hS => ?_)
      refine lv_aload_n hx hb dX3_cast_30 rfl (lv_at hl 0 rfl) ?_
      refine va_get (D := D) (ci := 3) (v := .int (nI 0)) (C := RX3) (T := TX3) (N := 16) hx hb hts hi_RX3 hown hK hP 0 rfl rfl 15 (by decide) hf_44 (fun _ h9 => h9) rfl dX3_cast_31 ?_
      refine mq_z (x := 0) (tgt := 39) (by omega) hx hb dX3_cast_34 (by decide) (fun c2 => ?_) (fun c2 => ?_)
      · refine lv_aload_n hx hb dX3_cast_39 rfl (lv_at hl 0 rfl) ?_
        refine va_get (D := D) (ci := 3) (v := .ref a5) (C := RX3) (T := TX3) (N := 16) hx hb hts hi_RX3 hown hK hP 0 rfl rfl 4 (by decide) hf_22 (fun _ h9 => h9) rfl dX3_cast_40 ?_
        refine lv_iload_n hx hb dX3_cast_43 rfl (lv_at hl 1 rfl) ?_
        refine mq_ld (k := k) oI ml hx hb hK hP 5 0 rfl rfl (by omega) (Nat.le_of_ble_eq_true rfl) dX3_cast_44 ?_
        rw [show oI (ml k) = nI q from (by rw [hmlq]; rfl)]
        refine lv_istore_n (lv' := [(2, .int (nI q)), (0, .ref h), (1, .int (nI k))]) hx hb dX3_cast_45 rfl hl (by decide) rfl (fun ls hl => ?_)
        refine lv_aload_n hx hb dX3_cast_46 rfl (lv_at hl 1 rfl) ?_
        refine lv_iconst (v := nI 0) hx hb dX3_cast_47 (by decide) ?_
        refine lv_iload_n hx hb dX3_cast_48 rfl (lv_at hl 2 rfl) ?_
        refine CtV.callV (n := 2) (q0 := 0) (ci := 3) (wc := MDc cyI h a1 a2 a3 a4 a5 a6 a7 a8 a9 a10 (mw, mh, ms, mp, ml, mb, mm, md, mc, mhi, msw, mmi, mhc, ma, mq, 0)) (wr := ([] : va_W)) (w1 := MDc cyI h a1 a2 a3 a4 a5 a6 a7 a8 a9 a10 ((md_throws 0 k q (mw, mh, ms, mp, ml, mb, mm, md, mc, mhi, msw, mmi, mhc, ma, mq, 0)).1, (md_throws 0 k q (mw, mh, ms, mp, ml, mb, mm, md, mc, mhi, msw, mmi, mhc, ma, mq, 0)).2.1, (md_throws 0 k q (mw, mh, ms, mp, ml, mb, mm, md, mc, mhi, msw, mmi, mhc, ma, mq, 0)).2.2.1, (md_throws 0 k q (mw, mh, ms, mp, ml, mb, mm, md, mc, mhi, msw, mmi, mhc, ma, mq, 0)).2.2.2.1, (md_throws 0 k q (mw, mh, ms, mp, ml, mb, mm, md, mc, mhi, msw, mmi, mhc, ma, mq, 0)).2.2.2.2.1, (md_throws 0 k q (mw, mh, ms, mp, ml, mb, mm, md, mc, mhi, msw, mmi, mhc, ma, mq, 0)).2.2.2.2.2.1, (md_throws 0 k q (mw, mh, ms, mp, ml, mb, mm, md, mc, mhi, msw, mmi, mhc, ma, mq, 0)).2.2.2.2.2.2.1, (md_throws 0 k q (mw, mh, ms, mp, ml, mb, mm, md, mc, mhi, msw, mmi, mhc, ma, mq, 0)).2.2.2.2.2.2.2.1, (md_throws 0 k q (mw, mh, ms, mp, ml, mb, mm, md, mc, mhi, msw, mmi, mhc, ma, mq, 0)).2.2.2.2.2.2.2.2.1, (md_throws 0 k q (mw, mh, ms, mp, ml, mb, mm, md, mc, mhi, msw, mmi, mhc, ma, mq, 0)).2.2.2.2.2.2.2.2.2.1, (md_throws 0 k q (mw, mh, ms, mp, ml, mb, mm, md, mc, mhi, msw, mmi, mhc, ma, mq, 0)).2.2.2.2.2.2.2.2.2.2.1, (md_throws 0 k q (mw, mh, ms, mp, ml, mb, mm, md, mc, mhi, msw, mmi, mhc, ma, mq, 0)).2.2.2.2.2.2.2.2.2.2.2.1, (md_throws 0 k q (mw, mh, ms, mp, ml, mb, mm, md, mc, mhi, msw, mmi, mhc, ma, mq, 0)).2.2.2.2.2.2.2.2.2.2.2.2.1, (md_throws 0 k q (mw, mh, ms, mp, ml, mb, mm, md, mc, mhi, msw, mmi, mhc, ma, mq, 0)).2.2.2.2.2.2.2.2.2.2.2.2.2.1, (md_throws 0 k q (mw, mh, ms, mp, ml, mb, mm, md, mc, mhi, msw, mmi, mhc, ma, mq, 0)).2.2.2.2.2.2.2.2.2.2.2.2.2.2.1, (md_throws 0 k q (mw, mh, ms, mp, ml, mb, mm, md, mc, mhi, msw, mmi, mhc, ma, mq, 0)).2.2.2.2.2.2.2.2.2.2.2.2.2.2.2)) (ws' := MDc cyI h a1 a2 a3 a4 a5 a6 a7 a8 a9 a10 ((md_throws 0 k q (mw, mh, ms, mp, ml, mb, mm, md, mc, mhi, msw, mmi, mhc, ma, mq, 0)).1, (md_throws 0 k q (mw, mh, ms, mp, ml, mb, mm, md, mc, mhi, msw, mmi, mhc, ma, mq, 0)).2.1, (md_throws 0 k q (mw, mh, ms, mp, ml, mb, mm, md, mc, mhi, msw, mmi, mhc, ma, mq, 0)).2.2.1, (md_throws 0 k q (mw, mh, ms, mp, ml, mb, mm, md, mc, mhi, msw, mmi, mhc, ma, mq, 0)).2.2.2.1, (md_throws 0 k q (mw, mh, ms, mp, ml, mb, mm, md, mc, mhi, msw, mmi, mhc, ma, mq, 0)).2.2.2.2.1, (md_throws 0 k q (mw, mh, ms, mp, ml, mb, mm, md, mc, mhi, msw, mmi, mhc, ma, mq, 0)).2.2.2.2.2.1, (md_throws 0 k q (mw, mh, ms, mp, ml, mb, mm, md, mc, mhi, msw, mmi, mhc, ma, mq, 0)).2.2.2.2.2.2.1, (md_throws 0 k q (mw, mh, ms, mp, ml, mb, mm, md, mc, mhi, msw, mmi, mhc, ma, mq, 0)).2.2.2.2.2.2.2.1, (md_throws 0 k q (mw, mh, ms, mp, ml, mb, mm, md, mc, mhi, msw, mmi, mhc, ma, mq, 0)).2.2.2.2.2.2.2.2.1, (md_throws 0 k q (mw, mh, ms, mp, ml, mb, mm, md, mc, mhi, msw, mmi, mhc, ma, mq, 0)).2.2.2.2.2.2.2.2.2.1, (md_throws 0 k q (mw, mh, ms, mp, ml, mb, mm, md, mc, mhi, msw, mmi, mhc, ma, mq, 0)).2.2.2.2.2.2.2.2.2.2.1, (md_throws 0 k q (mw, mh, ms, mp, ml, mb, mm, md, mc, mhi, msw, mmi, mhc, ma, mq, 0)).2.2.2.2.2.2.2.2.2.2.2.1, (md_throws 0 k q (mw, mh, ms, mp, ml, mb, mm, md, mc, mhi, msw, mmi, mhc, ma, mq, 0)).2.2.2.2.2.2.2.2.2.2.2.2.1, (md_throws 0 k q (mw, mh, ms, mp, ml, mb, mm, md, mc, mhi, msw, mmi, mhc, ma, mq, 0)).2.2.2.2.2.2.2.2.2.2.2.2.2.1, (md_throws 0 k q (mw, mh, ms, mp, ml, mb, mm, md, mc, mhi, msw, mmi, mhc, ma, mq, 0)).2.2.2.2.2.2.2.2.2.2.2.2.2.2.1, (md_throws 0 k q (mw, mh, ms, mp, ml, mb, mm, md, mc, mhi, msw, mmi, mhc, ma, mq, 0)).2.2.2.2.2.2.2.2.2.2.2.2.2.2.2)) (isC := [0, 1, 2, 3, 4, 5, 6, 7, 8, 9, 10]) (isR := []) (ps := [0, 1, 2, 3, 4, 5, 6, 7, 8, 9, 10]) (As := [.int (nI 0), .int (nI k)]) (rest := []) (m_throws l D cyI cyZ cyJ h a1 a2 a3 a4 a5 a6 a7 a8 a9 a10 mw mh ms mp ml mb mm md mc mhi msw mmi mhc ma mq 0 0 k q (by decide) hk16 (by rw [show 16 * 0 + k = k by omega]; exact hmlq) hq8 (md_bd_thr 0 hb9)) ⟨hx, hb, hown, hts⟩ gX3_cast_X3_throwsOut rfl ⟨rfl, by decide, by decide, by decide +kernel⟩ ⟨Nat.le_of_ble_eq_true rfl, Nat.le_of_ble_eq_true rfl⟩ ⟨rfl, rfl⟩ hml hl.1 hK hP hD hS hA ⟨rfl, rfl, rfl, rfl, rfl, rfl, rfl⟩ rfl ⟨rfl, rfl⟩ rfl rfl (Nat.le_of_ble_eq_true rfl) ⟨Nat.zero_le _, Nat.zero_le _⟩ dX3_cast_49 (fun H locs hP hD hS => ?_)
        refine lv_iload_n hx hb dX3_cast_52 rfl (lv_at hl 0 rfl) ?_
        exact CtI.ret hQ hx hb hr hlk hK hP hD hS dX3_cast_53 rfl (congrArg (MDc cyI h a1 a2 a3 a4 a5 a6 a7 a8 a9 a10) (congrArg (md_throws 0 k q) (rfl : (mw, mh, ms, mp, ml, mb, mm, md, mc, mhi, msw, mmi, mhc, ma, mq, 0) = md_thr 0 (mw, mh, ms, mp, ml, mb, mm, md, mc, mhi, msw, mmi, mhc, ma, mq, mt))))
      · exact absurd c2 (by decide)
    · exact absurd (nI_pos' (by omega)) c5
  · exact absurd c1 (by decide)
set_option maxRecDepth 100000 in
set_option maxHeartbeats 4000000 in
theorem m_castN (l : Launch) (D : va_G) (cyI cyZ cyJ : ClassId) (h a1 a2 a3 a4 a5 a6 a7 a8 a9 a10 : Nat) (mw : Nat → Int32) (mh : Nat → Int32) (ms : Nat → Nat) (mp : Nat → Nat) (ml : Nat → Option Nat) (mb : Nat → Nat) (mm : Nat → Nat) (md : Nat → Bool) (mc : Nat → Int32) (mhi : Int32) (msw : Int32) (mmi : Int32) (mhc : Int32) (ma : Nat → Nat) (mq : Nat) (mt : Nat) (x : Int32) (hbad : x < 0 ∨ nI (ms 0) ≤ x) : CtI l yX3_cast wsX3_cast rmX3_cast D (T3 cyI cyZ cyJ) [.ref h, .int x] (MDc cyI h a1 a2 a3 a4 a5 a6 a7 a8 a9 a10 (mw, mh, ms, mp, ml, mb, mm, md, mc, mhi, msw, mmi, mhc, ma, mq, mt)) (nI 0) (MDc cyI h a1 a2 a3 a4 a5 a6 a7 a8 a9 a10 (md_thr 1 (mw, mh, ms, mp, ml, mb, mm, md, mc, mhi, msw, mmi, mhc, ma, mq, mt))) := by
  refine CtI.of (cc := cX3_cast) (maxL := 3) (ret := (some .int)) (lv0 := [(0, .ref h), (1, .int x)]) (by decide) rfl (Nat.le_of_ble_eq_true rfl) rfl ?_
  intro p e s m below meth c A ls args Q hx hb hml hr hlk hts hown hK hP hA hD hS hl hQ
  have hown : s.vm.findClass RX3 = some m.cls := hown
  have hi_RX3 : ∀ w ∈ wsX30, w ∈ wsX3_cast := by decide +kernel
  have hf_44 := hts (.fieldLink RX3 44 "OutcastBenchModel" "thrown" "I") (by decide +kernel)
  refine lv_aload_n hx hb dX3_cast_0 rfl (lv_at hl 0 rfl) ?_
  refine lv_aload_n hx hb dX3_cast_1 rfl (lv_at hl 0 rfl) ?_
  refine lv_iload_n hx hb dX3_cast_2 rfl (lv_at hl 1 rfl) ?_
  refine CtI.callV (n := 1) (q0 := 0) (ci := 3) (wc := MDc cyI h a1 a2 a3 a4 a5 a6 a7 a8 a9 a10 (mw, mh, ms, mp, ml, mb, mm, md, mc, mhi, msw, mmi, mhc, ma, mq, mt)) (wr := ([] : va_W)) (w1 := MDc cyI h a1 a2 a3 a4 a5 a6 a7 a8 a9 a10 (mw, mh, ms, mp, ml, mb, mm, md, mc, mhi, msw, mmi, mhc, ma, mq, mt)) (ws' := MDc cyI h a1 a2 a3 a4 a5 a6 a7 a8 a9 a10 (mw, mh, ms, mp, ml, mb, mm, md, mc, mhi, msw, mmi, mhc, ma, mq, mt)) (isC := [0, 1, 2, 3, 4, 5, 6, 7, 8, 9, 10]) (isR := []) (ps := [0, 1, 2, 3, 4, 5, 6, 7, 8, 9, 10]) (As := [.int x]) (rest := [.ref h]) (m_isSetN l D cyI cyZ cyJ h a1 a2 a3 a4 a5 a6 a7 a8 a9 a10 mw mh ms mp ml mb mm md mc mhi msw mmi mhc ma mq mt x hbad) ⟨hx, hb, hown, hts⟩ gX3_cast_X3_isSet rfl ⟨rfl, by decide, by decide, by decide +kernel⟩ ⟨Nat.le_of_ble_eq_true rfl, Nat.le_of_ble_eq_true rfl⟩ ⟨rfl, rfl⟩ hml hl.1 hK hP hD hS hA ⟨rfl, rfl, rfl, rfl, rfl, rfl, rfl⟩ rfl ⟨rfl, rfl⟩ rfl rfl (Nat.le_of_ble_eq_true rfl) ⟨Nat.zero_le _, Nat.zero_le _⟩ dX3_cast_3 (fun H locs hP hD hS => ?_)
  refine mq_bnz (b := false) (tgt := 13) hx hb dX3_cast_6 (by decide) (fun c1 => ?_) (fun c1 => ?_)
  · exact absurd c1 (by decide)
  · refine lv_iconst (v := nI 1) hx hb dX3_cast_9 (by decide) ?_
    refine lv_goto (tgt := 27) hx hb dX3_cast_10 (by decide) ?_
    refine mq_put (D := D) (ci := 3) (v := .int (nI 1)) (ty := .int) (C := RX3) (T := TX3) (N := 16) (ws' := MDc cyI h a1 a2 a3 a4 a5 a6 a7 a8 a9 a10 (mw, mh, ms, mp, ml, mb, mm, md, mc, mhi, msw, mmi, mhc, ma, mq, 1)) hx hb hts hi_RX3 tyX3 tyX3_ok nmX3 hown hK hP hD hS 0 rfl rfl 15 (by decide) hf_44 (fun _ h9 => h9) rfl (by decide +kernel) rfl rfl (Nat.le_of_ble_eq_true rfl) dX3_cast_27 rfl (fun H locs hP hD hS => ?_)
    refine lv_aload_n hx hb dX3_cast_30 rfl (lv_at hl 0 rfl) ?_
    refine va_get (D := D) (ci := 3) (v := .int (nI 1)) (C := RX3) (T := TX3) (N := 16) hx hb hts hi_RX3 hown hK hP 0 rfl rfl 15 (by decide) hf_44 (fun _ h9 => h9) rfl dX3_cast_31 ?_
    refine mq_z (x := 1) (tgt := 39) (by omega) hx hb dX3_cast_34 (by decide) (fun c2 => ?_) (fun c2 => ?_)
    · exact absurd c2 (by decide)
    · refine lv_iconst (v := nI 0) hx hb dX3_cast_37 (by decide) ?_
      exact CtI.ret hQ hx hb hr hlk hK hP hD hS dX3_cast_38 rfl (congrArg (MDc cyI h a1 a2 a3 a4 a5 a6 a7 a8 a9 a10) rfl)
set_option maxRecDepth 100000 in
set_option maxHeartbeats 4000000 in
theorem m_castM (l : Launch) (D : va_G) (cyI cyZ cyJ : ClassId) (h a1 a2 a3 a4 a5 a6 a7 a8 a9 a10 : Nat) (mw : Nat → Int32) (mh : Nat → Int32) (ms : Nat → Nat) (mp : Nat → Nat) (ml : Nat → Option Nat) (mb : Nat → Nat) (mm : Nat → Nat) (md : Nat → Bool) (mc : Nat → Int32) (mhi : Int32) (msw : Int32) (mmi : Int32) (mhc : Int32) (ma : Nat → Nat) (mq : Nat) (mt : Nat) (k : Nat) (hb9 : md_bd 0 (mw, mh, ms, mp, ml, mb, mm, md, mc, mhi, msw, mmi, mhc, ma, mq, mt)) (hk : k < ms 0) (hmlq : ml k = none) : CtI l yX3_cast wsX3_cast rmX3_cast D (T3 cyI cyZ cyJ) [.ref h, .int (nI k)] (MDc cyI h a1 a2 a3 a4 a5 a6 a7 a8 a9 a10 (mw, mh, ms, mp, ml, mb, mm, md, mc, mhi, msw, mmi, mhc, ma, mq, mt)) (nI 0) (MDc cyI h a1 a2 a3 a4 a5 a6 a7 a8 a9 a10 (md_thr 2 (mw, mh, ms, mp, ml, mb, mm, md, mc, mhi, msw, mmi, mhc, ma, mq, mt))) := by
  refine CtI.of (cc := cX3_cast) (maxL := 3) (ret := (some .int)) (lv0 := [(0, .ref h), (1, .int (nI k))]) (by decide) rfl (Nat.le_of_ble_eq_true rfl) rfl ?_
  intro p e s m below meth c A ls args Q hx hb hml hr hlk hts hown hK hP hA hD hS hl hQ
  have hown : s.vm.findClass RX3 = some m.cls := hown
  have hi_RX3 : ∀ w ∈ wsX30, w ∈ wsX3_cast := by decide +kernel
  have hf_22 := hts (.fieldLink RX3 22 "OutcastBenchModel" "lineOf" "[I") (by decide +kernel)
  have hf_44 := hts (.fieldLink RX3 44 "OutcastBenchModel" "thrown" "I") (by decide +kernel)
  have hb0 := hb9
  obtain ⟨hms, hmp, hmm, hml8, hmb8⟩ := hb0
  have hk16 : k < 16 := by omega
  refine lv_aload_n hx hb dX3_cast_0 rfl (lv_at hl 0 rfl) ?_
  refine lv_aload_n hx hb dX3_cast_1 rfl (lv_at hl 0 rfl) ?_
  refine lv_iload_n hx hb dX3_cast_2 rfl (lv_at hl 1 rfl) ?_
  refine CtI.callV (n := 1) (q0 := 0) (ci := 3) (wc := MDc cyI h a1 a2 a3 a4 a5 a6 a7 a8 a9 a10 (mw, mh, ms, mp, ml, mb, mm, md, mc, mhi, msw, mmi, mhc, ma, mq, mt)) (wr := ([] : va_W)) (w1 := MDc cyI h a1 a2 a3 a4 a5 a6 a7 a8 a9 a10 (mw, mh, ms, mp, ml, mb, mm, md, mc, mhi, msw, mmi, mhc, ma, mq, mt)) (ws' := MDc cyI h a1 a2 a3 a4 a5 a6 a7 a8 a9 a10 (mw, mh, ms, mp, ml, mb, mm, md, mc, mhi, msw, mmi, mhc, ma, mq, mt)) (isC := [0, 1, 2, 3, 4, 5, 6, 7, 8, 9, 10]) (isR := []) (ps := [0, 1, 2, 3, 4, 5, 6, 7, 8, 9, 10]) (As := [.int (nI k)]) (rest := [.ref h]) (m_isSet l D cyI cyZ cyJ h a1 a2 a3 a4 a5 a6 a7 a8 a9 a10 mw mh ms mp ml mb mm md mc mhi msw mmi mhc ma mq mt k (by omega) hk) ⟨hx, hb, hown, hts⟩ gX3_cast_X3_isSet rfl ⟨rfl, by decide, by decide, by decide +kernel⟩ ⟨Nat.le_of_ble_eq_true rfl, Nat.le_of_ble_eq_true rfl⟩ ⟨rfl, rfl⟩ hml hl.1 hK hP hD hS hA ⟨rfl, rfl, rfl, rfl, rfl, rfl, rfl⟩ rfl ⟨rfl, rfl⟩ rfl rfl (Nat.le_of_ble_eq_true rfl) ⟨Nat.zero_le _, Nat.zero_le _⟩ dX3_cast_3 (fun H locs hP hD hS => ?_)
  refine mq_bnz (b := true) (tgt := 13) hx hb dX3_cast_6 (by decide) (fun c1 => ?_) (fun c1 => ?_)
  · refine lv_aload_n hx hb dX3_cast_13 rfl (lv_at hl 0 rfl) ?_
    refine va_get (D := D) (ci := 3) (v := .ref a5) (C := RX3) (T := TX3) (N := 16) hx hb hts hi_RX3 hown hK hP 0 rfl rfl 4 (by decide) hf_22 (fun _ h9 => h9) rfl dX3_cast_14 ?_
    refine lv_iload_n hx hb dX3_cast_17 rfl (lv_at hl 1 rfl) ?_
    refine mq_ld (k := k) oI ml hx hb hK hP 5 0 rfl rfl (by omega) (Nat.le_of_ble_eq_true rfl) dX3_cast_18 ?_
    rw [show oI (ml k) = oI none from (by rw [hmlq])]
    refine lv_if_ge (x := oI none) (tgt := 26) hx hb dX3_cast_19 (by decide) (fun c5 => ?_) (fun c5 => ?_)
    · exact absurd c5 (by decide)
    · refine lv_iconst (v := nI 2) hx hb dX3_cast_22 (by decide) ?_
      refine lv_goto (tgt := 27) hx hb dX3_cast_23 (by decide) ?_
      refine mq_put (D := D) (ci := 3) (v := .int (nI 2)) (ty := .int) (C := RX3) (T := TX3) (N := 16) (ws' := MDc cyI h a1 a2 a3 a4 a5 a6 a7 a8 a9 a10 (mw, mh, ms, mp, ml, mb, mm, md, mc, mhi, msw, mmi, mhc, ma, mq, 2)) hx hb hts hi_RX3 tyX3 tyX3_ok nmX3 hown hK hP hD hS 0 rfl rfl 15 (by decide) hf_44 (fun _ h9 => h9) rfl (by decide +kernel) rfl rfl (Nat.le_of_ble_eq_true rfl) dX3_cast_27 rfl (fun H locs hP hD hS => ?_)
      refine lv_aload_n hx hb dX3_cast_30 rfl (lv_at hl 0 rfl) ?_
      refine va_get (D := D) (ci := 3) (v := .int (nI 2)) (C := RX3) (T := TX3) (N := 16) hx hb hts hi_RX3 hown hK hP 0 rfl rfl 15 (by decide) hf_44 (fun _ h9 => h9) rfl dX3_cast_31 ?_
      refine mq_z (x := 2) (tgt := 39) (by omega) hx hb dX3_cast_34 (by decide) (fun c2 => ?_) (fun c2 => ?_)
      · exact absurd c2 (by decide)
      · refine lv_iconst (v := nI 0) hx hb dX3_cast_37 (by decide) ?_
        exact CtI.ret hQ hx hb hr hlk hK hP hD hS dX3_cast_38 rfl (congrArg (MDc cyI h a1 a2 a3 a4 a5 a6 a7 a8 a9 a10) rfl)
  · exact absurd c1 (by decide)
abbrev rmX3_sets : Room := { frames := 0, cells := 0, slots := 0, locals := 0 }
set_option maxRecDepth 100000 in
set_option maxHeartbeats 4000000 in
theorem m_sets (l : Launch) (D : va_G) (cyI cyZ cyJ : ClassId) (h a1 a2 a3 a4 a5 a6 a7 a8 a9 a10 : Nat) (mw : Nat → Int32) (mh : Nat → Int32) (ms : Nat → Nat) (mp : Nat → Nat) (ml : Nat → Option Nat) (mb : Nat → Nat) (mm : Nat → Nat) (md : Nat → Bool) (mc : Nat → Int32) (mhi : Int32) (msw : Int32) (mmi : Int32) (mhc : Int32) (ma : Nat → Nat) (mq : Nat) (mt : Nat)  : CtI l yX3_sets wsX3_sets rmX3_sets D (T3 cyI cyZ cyJ) [.ref h] (MDc cyI h a1 a2 a3 a4 a5 a6 a7 a8 a9 a10 (mw, mh, ms, mp, ml, mb, mm, md, mc, mhi, msw, mmi, mhc, ma, mq, mt)) (nI (ms 0)) (MDc cyI h a1 a2 a3 a4 a5 a6 a7 a8 a9 a10 (md_thr 0 (mw, mh, ms, mp, ml, mb, mm, md, mc, mhi, msw, mmi, mhc, ma, mq, mt))) := by
  refine CtI.of (cc := cX3_sets) (maxL := 1) (ret := (some .int)) (lv0 := [(0, .ref h)]) (by decide) rfl (Nat.le_of_ble_eq_true rfl) rfl ?_
  intro p e s m below meth c A ls args Q hx hb hml hr hlk hts hown hK hP hA hD hS hl hQ
  have hown : s.vm.findClass RX3 = some m.cls := hown
  have hi_RX3 : ∀ w ∈ wsX30, w ∈ wsX3_sets := by decide +kernel
  have hf_16 := hts (.fieldLink RX3 16 "OutcastBenchModel" "sets" "[I") (by decide +kernel)
  have hf_44 := hts (.fieldLink RX3 44 "OutcastBenchModel" "thrown" "I") (by decide +kernel)
  refine lv_aload_n hx hb dX3_sets_0 rfl (lv_at hl 0 rfl) ?_
  refine lv_iconst (v := nI 0) hx hb dX3_sets_1 (by decide) ?_
  refine mq_put (D := D) (ci := 3) (v := .int (nI 0)) (ty := .int) (C := RX3) (T := TX3) (N := 16) (ws' := MDc cyI h a1 a2 a3 a4 a5 a6 a7 a8 a9 a10 (mw, mh, ms, mp, ml, mb, mm, md, mc, mhi, msw, mmi, mhc, ma, mq, 0)) hx hb hts hi_RX3 tyX3 tyX3_ok nmX3 hown hK hP hD hS 0 rfl rfl 15 (by decide) hf_44 (fun _ h9 => h9) rfl (by decide +kernel) rfl rfl (Nat.le_of_ble_eq_true rfl) dX3_sets_2 rfl (fun H locs hP hD hS => ?_)
  refine lv_aload_n hx hb dX3_sets_5 rfl (lv_at hl 0 rfl) ?_
  refine va_get (D := D) (ci := 3) (v := .ref a3) (C := RX3) (T := TX3) (N := 16) hx hb hts hi_RX3 hown hK hP 0 rfl rfl 2 (by decide) hf_16 (fun _ h9 => h9) rfl dX3_sets_6 ?_
  refine lv_iconst (v := nI 0) hx hb dX3_sets_9 (by decide) ?_
  refine mq_ld (k := 0) nI ms hx hb hK hP 3 0 rfl rfl (by omega) (Nat.le_of_ble_eq_true rfl) dX3_sets_10 ?_
  exact CtI.ret hQ hx hb hr hlk hK hP hD hS dX3_sets_11 rfl (congrArg (MDc cyI h a1 a2 a3 a4 a5 a6 a7 a8 a9 a10) rfl)
abbrev rmX3_places : Room := { frames := 0, cells := 0, slots := 0, locals := 0 }
set_option maxRecDepth 100000 in
set_option maxHeartbeats 4000000 in
theorem m_places (l : Launch) (D : va_G) (cyI cyZ cyJ : ClassId) (h a1 a2 a3 a4 a5 a6 a7 a8 a9 a10 : Nat) (mw : Nat → Int32) (mh : Nat → Int32) (ms : Nat → Nat) (mp : Nat → Nat) (ml : Nat → Option Nat) (mb : Nat → Nat) (mm : Nat → Nat) (md : Nat → Bool) (mc : Nat → Int32) (mhi : Int32) (msw : Int32) (mmi : Int32) (mhc : Int32) (ma : Nat → Nat) (mq : Nat) (mt : Nat)  : CtI l yX3_places wsX3_places rmX3_places D (T3 cyI cyZ cyJ) [.ref h] (MDc cyI h a1 a2 a3 a4 a5 a6 a7 a8 a9 a10 (mw, mh, ms, mp, ml, mb, mm, md, mc, mhi, msw, mmi, mhc, ma, mq, mt)) (nI (mp 0)) (MDc cyI h a1 a2 a3 a4 a5 a6 a7 a8 a9 a10 (md_thr 0 (mw, mh, ms, mp, ml, mb, mm, md, mc, mhi, msw, mmi, mhc, ma, mq, mt))) := by
  refine CtI.of (cc := cX3_places) (maxL := 1) (ret := (some .int)) (lv0 := [(0, .ref h)]) (by decide) rfl (Nat.le_of_ble_eq_true rfl) rfl ?_
  intro p e s m below meth c A ls args Q hx hb hml hr hlk hts hown hK hP hA hD hS hl hQ
  have hown : s.vm.findClass RX3 = some m.cls := hown
  have hi_RX3 : ∀ w ∈ wsX30, w ∈ wsX3_places := by decide +kernel
  have hf_19 := hts (.fieldLink RX3 19 "OutcastBenchModel" "places" "[I") (by decide +kernel)
  have hf_44 := hts (.fieldLink RX3 44 "OutcastBenchModel" "thrown" "I") (by decide +kernel)
  refine lv_aload_n hx hb dX3_places_0 rfl (lv_at hl 0 rfl) ?_
  refine lv_iconst (v := nI 0) hx hb dX3_places_1 (by decide) ?_
  refine mq_put (D := D) (ci := 3) (v := .int (nI 0)) (ty := .int) (C := RX3) (T := TX3) (N := 16) (ws' := MDc cyI h a1 a2 a3 a4 a5 a6 a7 a8 a9 a10 (mw, mh, ms, mp, ml, mb, mm, md, mc, mhi, msw, mmi, mhc, ma, mq, 0)) hx hb hts hi_RX3 tyX3 tyX3_ok nmX3 hown hK hP hD hS 0 rfl rfl 15 (by decide) hf_44 (fun _ h9 => h9) rfl (by decide +kernel) rfl rfl (Nat.le_of_ble_eq_true rfl) dX3_places_2 rfl (fun H locs hP hD hS => ?_)
  refine lv_aload_n hx hb dX3_places_5 rfl (lv_at hl 0 rfl) ?_
  refine va_get (D := D) (ci := 3) (v := .ref a4) (C := RX3) (T := TX3) (N := 16) hx hb hts hi_RX3 hown hK hP 0 rfl rfl 3 (by decide) hf_19 (fun _ h9 => h9) rfl dX3_places_6 ?_
  refine lv_iconst (v := nI 0) hx hb dX3_places_9 (by decide) ?_
  refine mq_ld (k := 0) nI mp hx hb hK hP 4 0 rfl rfl (by omega) (Nat.le_of_ble_eq_true rfl) dX3_places_10 ?_
  exact CtI.ret hQ hx hb hr hlk hK hP hD hS dX3_places_11 rfl (congrArg (MDc cyI h a1 a2 a3 a4 a5 a6 a7 a8 a9 a10) rfl)
abbrev rmX3_sitting : Room := { frames := 0, cells := 0, slots := 0, locals := 0 }
set_option maxRecDepth 100000 in
set_option maxHeartbeats 4000000 in
theorem m_sitting (l : Launch) (D : va_G) (cyI cyZ cyJ : ClassId) (h a1 a2 a3 a4 a5 a6 a7 a8 a9 a10 : Nat) (mw : Nat → Int32) (mh : Nat → Int32) (ms : Nat → Nat) (mp : Nat → Nat) (ml : Nat → Option Nat) (mb : Nat → Nat) (mm : Nat → Nat) (md : Nat → Bool) (mc : Nat → Int32) (mhi : Int32) (msw : Int32) (mmi : Int32) (mhc : Int32) (ma : Nat → Nat) (mq : Nat) (mt : Nat)  : CtI l yX3_sitting wsX3_sitting rmX3_sitting D (T3 cyI cyZ cyJ) [.ref h] (MDc cyI h a1 a2 a3 a4 a5 a6 a7 a8 a9 a10 (mw, mh, ms, mp, ml, mb, mm, md, mc, mhi, msw, mmi, mhc, ma, mq, mt)) (nI (mm 0)) (MDc cyI h a1 a2 a3 a4 a5 a6 a7 a8 a9 a10 (md_thr 0 (mw, mh, ms, mp, ml, mb, mm, md, mc, mhi, msw, mmi, mhc, ma, mq, mt))) := by
  refine CtI.of (cc := cX3_sitting) (maxL := 1) (ret := (some .int)) (lv0 := [(0, .ref h)]) (by decide) rfl (Nat.le_of_ble_eq_true rfl) rfl ?_
  intro p e s m below meth c A ls args Q hx hb hml hr hlk hts hown hK hP hA hD hS hl hQ
  have hown : s.vm.findClass RX3 = some m.cls := hown
  have hi_RX3 : ∀ w ∈ wsX30, w ∈ wsX3_sitting := by decide +kernel
  have hf_28 := hts (.fieldLink RX3 28 "OutcastBenchModel" "many" "[I") (by decide +kernel)
  have hf_44 := hts (.fieldLink RX3 44 "OutcastBenchModel" "thrown" "I") (by decide +kernel)
  refine lv_aload_n hx hb dX3_sitting_0 rfl (lv_at hl 0 rfl) ?_
  refine lv_iconst (v := nI 0) hx hb dX3_sitting_1 (by decide) ?_
  refine mq_put (D := D) (ci := 3) (v := .int (nI 0)) (ty := .int) (C := RX3) (T := TX3) (N := 16) (ws' := MDc cyI h a1 a2 a3 a4 a5 a6 a7 a8 a9 a10 (mw, mh, ms, mp, ml, mb, mm, md, mc, mhi, msw, mmi, mhc, ma, mq, 0)) hx hb hts hi_RX3 tyX3 tyX3_ok nmX3 hown hK hP hD hS 0 rfl rfl 15 (by decide) hf_44 (fun _ h9 => h9) rfl (by decide +kernel) rfl rfl (Nat.le_of_ble_eq_true rfl) dX3_sitting_2 rfl (fun H locs hP hD hS => ?_)
  refine lv_aload_n hx hb dX3_sitting_5 rfl (lv_at hl 0 rfl) ?_
  refine va_get (D := D) (ci := 3) (v := .ref a7) (C := RX3) (T := TX3) (N := 16) hx hb hts hi_RX3 hown hK hP 0 rfl rfl 6 (by decide) hf_28 (fun _ h9 => h9) rfl dX3_sitting_6 ?_
  refine lv_iconst (v := nI 0) hx hb dX3_sitting_9 (by decide) ?_
  refine mq_ld (k := 0) nI mm hx hb hK hP 7 0 rfl rfl (by omega) (Nat.le_of_ble_eq_true rfl) dX3_sitting_10 ?_
  exact CtI.ret hQ hx hb hr hlk hK hP hD hS dX3_sitting_11 rfl (congrArg (MDc cyI h a1 a2 a3 a4 a5 a6 a7 a8 a9 a10) rfl)
abbrev rmX3_hits : Room := { frames := 0, cells := 0, slots := 0, locals := 0 }
set_option maxRecDepth 100000 in
set_option maxHeartbeats 4000000 in
theorem m_hits (l : Launch) (D : va_G) (cyI cyZ cyJ : ClassId) (h a1 a2 a3 a4 a5 a6 a7 a8 a9 a10 : Nat) (mw : Nat → Int32) (mh : Nat → Int32) (ms : Nat → Nat) (mp : Nat → Nat) (ml : Nat → Option Nat) (mb : Nat → Nat) (mm : Nat → Nat) (md : Nat → Bool) (mc : Nat → Int32) (mhi : Int32) (msw : Int32) (mmi : Int32) (mhc : Int32) (ma : Nat → Nat) (mq : Nat) (mt : Nat)  : CtI l yX3_hits wsX3_hits rmX3_hits D (T3 cyI cyZ cyJ) [.ref h] (MDc cyI h a1 a2 a3 a4 a5 a6 a7 a8 a9 a10 (mw, mh, ms, mp, ml, mb, mm, md, mc, mhi, msw, mmi, mhc, ma, mq, mt)) (mhi) (MDc cyI h a1 a2 a3 a4 a5 a6 a7 a8 a9 a10 (md_thr 0 (mw, mh, ms, mp, ml, mb, mm, md, mc, mhi, msw, mmi, mhc, ma, mq, mt))) := by
  refine CtI.of (cc := cX3_hits) (maxL := 1) (ret := (some .int)) (lv0 := [(0, .ref h)]) (by decide) rfl (Nat.le_of_ble_eq_true rfl) rfl ?_
  intro p e s m below meth c A ls args Q hx hb hml hr hlk hts hown hK hP hA hD hS hl hQ
  have hown : s.vm.findClass RX3 = some m.cls := hown
  have hi_RX3 : ∀ w ∈ wsX30, w ∈ wsX3_hits := by decide +kernel
  have hf_44 := hts (.fieldLink RX3 44 "OutcastBenchModel" "thrown" "I") (by decide +kernel)
  have hf_74 := hts (.fieldLink RX3 74 "OutcastBenchModel" "hits" "I") (by decide +kernel)
  refine lv_aload_n hx hb dX3_hits_0 rfl (lv_at hl 0 rfl) ?_
  refine lv_iconst (v := nI 0) hx hb dX3_hits_1 (by decide) ?_
  refine mq_put (D := D) (ci := 3) (v := .int (nI 0)) (ty := .int) (C := RX3) (T := TX3) (N := 16) (ws' := MDc cyI h a1 a2 a3 a4 a5 a6 a7 a8 a9 a10 (mw, mh, ms, mp, ml, mb, mm, md, mc, mhi, msw, mmi, mhc, ma, mq, 0)) hx hb hts hi_RX3 tyX3 tyX3_ok nmX3 hown hK hP hD hS 0 rfl rfl 15 (by decide) hf_44 (fun _ h9 => h9) rfl (by decide +kernel) rfl rfl (Nat.le_of_ble_eq_true rfl) dX3_hits_2 rfl (fun H locs hP hD hS => ?_)
  refine lv_aload_n hx hb dX3_hits_5 rfl (lv_at hl 0 rfl) ?_
  refine va_get (D := D) (ci := 3) (v := .int mhi) (C := RX3) (T := TX3) (N := 16) hx hb hts hi_RX3 hown hK hP 0 rfl rfl 9 (by decide) hf_74 (fun _ h9 => h9) rfl dX3_hits_6 ?_
  exact CtI.ret hQ hx hb hr hlk hK hP hD hS dX3_hits_9 rfl (congrArg (MDc cyI h a1 a2 a3 a4 a5 a6 a7 a8 a9 a10) rfl)
abbrev rmX3_swaps : Room := { frames := 0, cells := 0, slots := 0, locals := 0 }
set_option maxRecDepth 100000 in
set_option maxHeartbeats 4000000 in
theorem m_swaps (l : Launch) (D : va_G) (cyI cyZ cyJ : ClassId) (h a1 a2 a3 a4 a5 a6 a7 a8 a9 a10 : Nat) (mw : Nat → Int32) (mh : Nat → Int32) (ms : Nat → Nat) (mp : Nat → Nat) (ml : Nat → Option Nat) (mb : Nat → Nat) (mm : Nat → Nat) (md : Nat → Bool) (mc : Nat → Int32) (mhi : Int32) (msw : Int32) (mmi : Int32) (mhc : Int32) (ma : Nat → Nat) (mq : Nat) (mt : Nat)  : CtI l yX3_swaps wsX3_swaps rmX3_swaps D (T3 cyI cyZ cyJ) [.ref h] (MDc cyI h a1 a2 a3 a4 a5 a6 a7 a8 a9 a10 (mw, mh, ms, mp, ml, mb, mm, md, mc, mhi, msw, mmi, mhc, ma, mq, mt)) (msw) (MDc cyI h a1 a2 a3 a4 a5 a6 a7 a8 a9 a10 (md_thr 0 (mw, mh, ms, mp, ml, mb, mm, md, mc, mhi, msw, mmi, mhc, ma, mq, mt))) := by
  refine CtI.of (cc := cX3_swaps) (maxL := 1) (ret := (some .int)) (lv0 := [(0, .ref h)]) (by decide) rfl (Nat.le_of_ble_eq_true rfl) rfl ?_
  intro p e s m below meth c A ls args Q hx hb hml hr hlk hts hown hK hP hA hD hS hl hQ
  have hown : s.vm.findClass RX3 = some m.cls := hown
  have hi_RX3 : ∀ w ∈ wsX30, w ∈ wsX3_swaps := by decide +kernel
  have hf_44 := hts (.fieldLink RX3 44 "OutcastBenchModel" "thrown" "I") (by decide +kernel)
  have hf_77 := hts (.fieldLink RX3 77 "OutcastBenchModel" "swaps" "I") (by decide +kernel)
  refine lv_aload_n hx hb dX3_swaps_0 rfl (lv_at hl 0 rfl) ?_
  refine lv_iconst (v := nI 0) hx hb dX3_swaps_1 (by decide) ?_
  refine mq_put (D := D) (ci := 3) (v := .int (nI 0)) (ty := .int) (C := RX3) (T := TX3) (N := 16) (ws' := MDc cyI h a1 a2 a3 a4 a5 a6 a7 a8 a9 a10 (mw, mh, ms, mp, ml, mb, mm, md, mc, mhi, msw, mmi, mhc, ma, mq, 0)) hx hb hts hi_RX3 tyX3 tyX3_ok nmX3 hown hK hP hD hS 0 rfl rfl 15 (by decide) hf_44 (fun _ h9 => h9) rfl (by decide +kernel) rfl rfl (Nat.le_of_ble_eq_true rfl) dX3_swaps_2 rfl (fun H locs hP hD hS => ?_)
  refine lv_aload_n hx hb dX3_swaps_5 rfl (lv_at hl 0 rfl) ?_
  refine va_get (D := D) (ci := 3) (v := .int msw) (C := RX3) (T := TX3) (N := 16) hx hb hts hi_RX3 hown hK hP 0 rfl rfl 10 (by decide) hf_77 (fun _ h9 => h9) rfl dX3_swaps_6 ?_
  exact CtI.ret hQ hx hb hr hlk hK hP hD hS dX3_swaps_9 rfl (congrArg (MDc cyI h a1 a2 a3 a4 a5 a6 a7 a8 a9 a10) rfl)
abbrev rmX3_misses : Room := { frames := 0, cells := 0, slots := 0, locals := 0 }
set_option maxRecDepth 100000 in
set_option maxHeartbeats 4000000 in
theorem m_misses (l : Launch) (D : va_G) (cyI cyZ cyJ : ClassId) (h a1 a2 a3 a4 a5 a6 a7 a8 a9 a10 : Nat) (mw : Nat → Int32) (mh : Nat → Int32) (ms : Nat → Nat) (mp : Nat → Nat) (ml : Nat → Option Nat) (mb : Nat → Nat) (mm : Nat → Nat) (md : Nat → Bool) (mc : Nat → Int32) (mhi : Int32) (msw : Int32) (mmi : Int32) (mhc : Int32) (ma : Nat → Nat) (mq : Nat) (mt : Nat)  : CtI l yX3_misses wsX3_misses rmX3_misses D (T3 cyI cyZ cyJ) [.ref h] (MDc cyI h a1 a2 a3 a4 a5 a6 a7 a8 a9 a10 (mw, mh, ms, mp, ml, mb, mm, md, mc, mhi, msw, mmi, mhc, ma, mq, mt)) (mmi) (MDc cyI h a1 a2 a3 a4 a5 a6 a7 a8 a9 a10 (md_thr 0 (mw, mh, ms, mp, ml, mb, mm, md, mc, mhi, msw, mmi, mhc, ma, mq, mt))) := by
  refine CtI.of (cc := cX3_misses) (maxL := 1) (ret := (some .int)) (lv0 := [(0, .ref h)]) (by decide) rfl (Nat.le_of_ble_eq_true rfl) rfl ?_
  intro p e s m below meth c A ls args Q hx hb hml hr hlk hts hown hK hP hA hD hS hl hQ
  have hown : s.vm.findClass RX3 = some m.cls := hown
  have hi_RX3 : ∀ w ∈ wsX30, w ∈ wsX3_misses := by decide +kernel
  have hf_44 := hts (.fieldLink RX3 44 "OutcastBenchModel" "thrown" "I") (by decide +kernel)
  have hf_80 := hts (.fieldLink RX3 80 "OutcastBenchModel" "misses" "I") (by decide +kernel)
  refine lv_aload_n hx hb dX3_misses_0 rfl (lv_at hl 0 rfl) ?_
  refine lv_iconst (v := nI 0) hx hb dX3_misses_1 (by decide) ?_
  refine mq_put (D := D) (ci := 3) (v := .int (nI 0)) (ty := .int) (C := RX3) (T := TX3) (N := 16) (ws' := MDc cyI h a1 a2 a3 a4 a5 a6 a7 a8 a9 a10 (mw, mh, ms, mp, ml, mb, mm, md, mc, mhi, msw, mmi, mhc, ma, mq, 0)) hx hb hts hi_RX3 tyX3 tyX3_ok nmX3 hown hK hP hD hS 0 rfl rfl 15 (by decide) hf_44 (fun _ h9 => h9) rfl (by decide +kernel) rfl rfl (Nat.le_of_ble_eq_true rfl) dX3_misses_2 rfl (fun H locs hP hD hS => ?_)
  refine lv_aload_n hx hb dX3_misses_5 rfl (lv_at hl 0 rfl) ?_
  refine va_get (D := D) (ci := 3) (v := .int mmi) (C := RX3) (T := TX3) (N := 16) hx hb hts hi_RX3 hown hK hP 0 rfl rfl 11 (by decide) hf_80 (fun _ h9 => h9) rfl dX3_misses_6 ?_
  exact CtI.ret hQ hx hb hr hlk hK hP hD hS dX3_misses_9 rfl (congrArg (MDc cyI h a1 a2 a3 a4 a5 a6 a7 a8 a9 a10) rfl)
abbrev rmX3_homecomings : Room := { frames := 0, cells := 0, slots := 0, locals := 0 }
set_option maxRecDepth 100000 in
set_option maxHeartbeats 4000000 in
theorem m_homecomings (l : Launch) (D : va_G) (cyI cyZ cyJ : ClassId) (h a1 a2 a3 a4 a5 a6 a7 a8 a9 a10 : Nat) (mw : Nat → Int32) (mh : Nat → Int32) (ms : Nat → Nat) (mp : Nat → Nat) (ml : Nat → Option Nat) (mb : Nat → Nat) (mm : Nat → Nat) (md : Nat → Bool) (mc : Nat → Int32) (mhi : Int32) (msw : Int32) (mmi : Int32) (mhc : Int32) (ma : Nat → Nat) (mq : Nat) (mt : Nat)  : CtI l yX3_homecomings wsX3_homecomings rmX3_homecomings D (T3 cyI cyZ cyJ) [.ref h] (MDc cyI h a1 a2 a3 a4 a5 a6 a7 a8 a9 a10 (mw, mh, ms, mp, ml, mb, mm, md, mc, mhi, msw, mmi, mhc, ma, mq, mt)) (mhc) (MDc cyI h a1 a2 a3 a4 a5 a6 a7 a8 a9 a10 (md_thr 0 (mw, mh, ms, mp, ml, mb, mm, md, mc, mhi, msw, mmi, mhc, ma, mq, mt))) := by
  refine CtI.of (cc := cX3_homecomings) (maxL := 1) (ret := (some .int)) (lv0 := [(0, .ref h)]) (by decide) rfl (Nat.le_of_ble_eq_true rfl) rfl ?_
  intro p e s m below meth c A ls args Q hx hb hml hr hlk hts hown hK hP hA hD hS hl hQ
  have hown : s.vm.findClass RX3 = some m.cls := hown
  have hi_RX3 : ∀ w ∈ wsX30, w ∈ wsX3_homecomings := by decide +kernel
  have hf_44 := hts (.fieldLink RX3 44 "OutcastBenchModel" "thrown" "I") (by decide +kernel)
  have hf_48 := hts (.fieldLink RX3 48 "OutcastBenchModel" "homecomings" "I") (by decide +kernel)
  refine lv_aload_n hx hb dX3_homecomings_0 rfl (lv_at hl 0 rfl) ?_
  refine lv_iconst (v := nI 0) hx hb dX3_homecomings_1 (by decide) ?_
  refine mq_put (D := D) (ci := 3) (v := .int (nI 0)) (ty := .int) (C := RX3) (T := TX3) (N := 16) (ws' := MDc cyI h a1 a2 a3 a4 a5 a6 a7 a8 a9 a10 (mw, mh, ms, mp, ml, mb, mm, md, mc, mhi, msw, mmi, mhc, ma, mq, 0)) hx hb hts hi_RX3 tyX3 tyX3_ok nmX3 hown hK hP hD hS 0 rfl rfl 15 (by decide) hf_44 (fun _ h9 => h9) rfl (by decide +kernel) rfl rfl (Nat.le_of_ble_eq_true rfl) dX3_homecomings_2 rfl (fun H locs hP hD hS => ?_)
  refine lv_aload_n hx hb dX3_homecomings_5 rfl (lv_at hl 0 rfl) ?_
  refine va_get (D := D) (ci := 3) (v := .int mhc) (C := RX3) (T := TX3) (N := 16) hx hb hts hi_RX3 hown hK hP 0 rfl rfl 12 (by decide) hf_48 (fun _ h9 => h9) rfl dX3_homecomings_6 ?_
  exact CtI.ret hQ hx hb hr hlk hK hP hD hS dX3_homecomings_9 rfl (congrArg (MDc cyI h a1 a2 a3 a4 a5 a6 a7 a8 a9 a10) rfl)
abbrev rmX3_cost : Room := { frames := 0, cells := 0, slots := 0, locals := 0 }
set_option maxRecDepth 100000 in
set_option maxHeartbeats 4000000 in
theorem m_cost (l : Launch) (D : va_G) (cyI cyZ cyJ : ClassId) (h a1 a2 a3 a4 a5 a6 a7 a8 a9 a10 : Nat) (mw : Nat → Int32) (mh : Nat → Int32) (ms : Nat → Nat) (mp : Nat → Nat) (ml : Nat → Option Nat) (mb : Nat → Nat) (mm : Nat → Nat) (md : Nat → Bool) (mc : Nat → Int32) (mhi : Int32) (msw : Int32) (mmi : Int32) (mhc : Int32) (ma : Nat → Nat) (mq : Nat) (mt : Nat)  : CtI l yX3_cost wsX3_cost rmX3_cost D (T3 cyI cyZ cyJ) [.ref h] (MDc cyI h a1 a2 a3 a4 a5 a6 a7 a8 a9 a10 (mw, mh, ms, mp, ml, mb, mm, md, mc, mhi, msw, mmi, mhc, ma, mq, mt)) (mc 0) (MDc cyI h a1 a2 a3 a4 a5 a6 a7 a8 a9 a10 (md_thr 0 (mw, mh, ms, mp, ml, mb, mm, md, mc, mhi, msw, mmi, mhc, ma, mq, mt))) := by
  refine CtI.of (cc := cX3_cost) (maxL := 1) (ret := (some .int)) (lv0 := [(0, .ref h)]) (by decide) rfl (Nat.le_of_ble_eq_true rfl) rfl ?_
  intro p e s m below meth c A ls args Q hx hb hml hr hlk hts hown hK hP hA hD hS hl hQ
  have hown : s.vm.findClass RX3 = some m.cls := hown
  have hi_RX3 : ∀ w ∈ wsX30, w ∈ wsX3_cost := by decide +kernel
  have hf_34 := hts (.fieldLink RX3 34 "OutcastBenchModel" "cost" "[I") (by decide +kernel)
  have hf_44 := hts (.fieldLink RX3 44 "OutcastBenchModel" "thrown" "I") (by decide +kernel)
  refine lv_aload_n hx hb dX3_cost_0 rfl (lv_at hl 0 rfl) ?_
  refine lv_iconst (v := nI 0) hx hb dX3_cost_1 (by decide) ?_
  refine mq_put (D := D) (ci := 3) (v := .int (nI 0)) (ty := .int) (C := RX3) (T := TX3) (N := 16) (ws' := MDc cyI h a1 a2 a3 a4 a5 a6 a7 a8 a9 a10 (mw, mh, ms, mp, ml, mb, mm, md, mc, mhi, msw, mmi, mhc, ma, mq, 0)) hx hb hts hi_RX3 tyX3 tyX3_ok nmX3 hown hK hP hD hS 0 rfl rfl 15 (by decide) hf_44 (fun _ h9 => h9) rfl (by decide +kernel) rfl rfl (Nat.le_of_ble_eq_true rfl) dX3_cost_2 rfl (fun H locs hP hD hS => ?_)
  refine lv_aload_n hx hb dX3_cost_5 rfl (lv_at hl 0 rfl) ?_
  refine va_get (D := D) (ci := 3) (v := .ref a9) (C := RX3) (T := TX3) (N := 16) hx hb hts hi_RX3 hown hK hP 0 rfl rfl 8 (by decide) hf_34 (fun _ h9 => h9) rfl dX3_cost_6 ?_
  refine lv_iconst (v := nI 0) hx hb dX3_cost_9 (by decide) ?_
  refine mq_ldR (k := 0) mc hx hb hK hP 9 0 rfl rfl (by omega) (Nat.le_of_ble_eq_true rfl) dX3_cost_10 ?_
  exact CtI.ret hQ hx hb hr hlk hK hP hD hS dX3_cost_11 rfl (congrArg (MDc cyI h a1 a2 a3 a4 a5 a6 a7 a8 a9 a10) rfl)
abbrev rmX3_lineIn : Room := { frames := 1, cells := 0, slots := 0, locals := 22 }
set_option maxRecDepth 100000 in
set_option maxHeartbeats 4000000 in
theorem m_lineIn (l : Launch) (D : va_G) (cyI cyZ cyJ : ClassId) (h a1 a2 a3 a4 a5 a6 a7 a8 a9 a10 : Nat) (mw : Nat → Int32) (mh : Nat → Int32) (ms : Nat → Nat) (mp : Nat → Nat) (ml : Nat → Option Nat) (mb : Nat → Nat) (mm : Nat → Nat) (md : Nat → Bool) (mc : Nat → Int32) (mhi : Int32) (msw : Int32) (mmi : Int32) (mhc : Int32) (ma : Nat → Nat) (mq : Nat) (mt : Nat) (k : Nat) (hb9 : md_bd 0 (mw, mh, ms, mp, ml, mb, mm, md, mc, mhi, msw, mmi, mhc, ma, mq, mt)) (hk : k < ms 0) : CtI l yX3_lineIn wsX3_lineIn rmX3_lineIn D (T3 cyI cyZ cyJ) [.ref h, .int (nI k)] (MDc cyI h a1 a2 a3 a4 a5 a6 a7 a8 a9 a10 (mw, mh, ms, mp, ml, mb, mm, md, mc, mhi, msw, mmi, mhc, ma, mq, mt)) (oI (ml k)) (MDc cyI h a1 a2 a3 a4 a5 a6 a7 a8 a9 a10 (md_thr 0 (mw, mh, ms, mp, ml, mb, mm, md, mc, mhi, msw, mmi, mhc, ma, mq, mt))) := by
  refine CtI.of (cc := cX3_lineIn) (maxL := 2) (ret := (some .int)) (lv0 := [(0, .ref h), (1, .int (nI k))]) (by decide) rfl (Nat.le_of_ble_eq_true rfl) rfl ?_
  intro p e s m below meth c A ls args Q hx hb hml hr hlk hts hown hK hP hA hD hS hl hQ
  have hown : s.vm.findClass RX3 = some m.cls := hown
  have hi_RX3 : ∀ w ∈ wsX30, w ∈ wsX3_lineIn := by decide +kernel
  have hf_22 := hts (.fieldLink RX3 22 "OutcastBenchModel" "lineOf" "[I") (by decide +kernel)
  have hf_44 := hts (.fieldLink RX3 44 "OutcastBenchModel" "thrown" "I") (by decide +kernel)
  have hb0 := hb9
  obtain ⟨hms, hmp, hmm, hml8, hmb8⟩ := hb0
  have hk16 : k < 16 := by omega
  refine lv_aload_n hx hb dX3_lineIn_0 rfl (lv_at hl 0 rfl) ?_
  refine lv_aload_n hx hb dX3_lineIn_1 rfl (lv_at hl 0 rfl) ?_
  refine lv_iload_n hx hb dX3_lineIn_2 rfl (lv_at hl 1 rfl) ?_
  refine CtI.callV (n := 1) (q0 := 0) (ci := 3) (wc := MDc cyI h a1 a2 a3 a4 a5 a6 a7 a8 a9 a10 (mw, mh, ms, mp, ml, mb, mm, md, mc, mhi, msw, mmi, mhc, ma, mq, mt)) (wr := ([] : va_W)) (w1 := MDc cyI h a1 a2 a3 a4 a5 a6 a7 a8 a9 a10 (mw, mh, ms, mp, ml, mb, mm, md, mc, mhi, msw, mmi, mhc, ma, mq, mt)) (ws' := MDc cyI h a1 a2 a3 a4 a5 a6 a7 a8 a9 a10 (mw, mh, ms, mp, ml, mb, mm, md, mc, mhi, msw, mmi, mhc, ma, mq, mt)) (isC := [0, 1, 2, 3, 4, 5, 6, 7, 8, 9, 10]) (isR := []) (ps := [0, 1, 2, 3, 4, 5, 6, 7, 8, 9, 10]) (As := [.int (nI k)]) (rest := [.ref h]) (m_isSet l D cyI cyZ cyJ h a1 a2 a3 a4 a5 a6 a7 a8 a9 a10 mw mh ms mp ml mb mm md mc mhi msw mmi mhc ma mq mt k (by omega) hk) ⟨hx, hb, hown, hts⟩ gX3_lineIn_X3_isSet rfl ⟨rfl, by decide, by decide, by decide +kernel⟩ ⟨Nat.le_of_ble_eq_true rfl, Nat.le_of_ble_eq_true rfl⟩ ⟨rfl, rfl⟩ hml hl.1 hK hP hD hS hA ⟨rfl, rfl, rfl, rfl, rfl, rfl, rfl⟩ rfl ⟨rfl, rfl⟩ rfl rfl (Nat.le_of_ble_eq_true rfl) ⟨Nat.zero_le _, Nat.zero_le _⟩ dX3_lineIn_3 (fun H locs hP hD hS => ?_)
  refine mq_bz (b := true) (tgt := 13) hx hb dX3_lineIn_6 (by decide) (fun c1 => ?_) (fun c1 => ?_)
  · exact absurd c1 (by decide)
  · refine lv_iconst (v := nI 0) hx hb dX3_lineIn_9 (by decide) ?_
    refine lv_goto (tgt := 14) hx hb dX3_lineIn_10 (by decide) ?_
    refine mq_put (D := D) (ci := 3) (v := .int (nI 0)) (ty := .int) (C := RX3) (T := TX3) (N := 16) (ws' := MDc cyI h a1 a2 a3 a4 a5 a6 a7 a8 a9 a10 (mw, mh, ms, mp, ml, mb, mm, md, mc, mhi, msw, mmi, mhc, ma, mq, 0)) hx hb hts hi_RX3 tyX3 tyX3_ok nmX3 hown hK hP hD hS 0 rfl rfl 15 (by decide) hf_44 (fun _ h9 => h9) rfl (by decide +kernel) rfl rfl (Nat.le_of_ble_eq_true rfl) dX3_lineIn_14 rfl (fun H locs hP hD hS => ?_)
    refine lv_aload_n hx hb dX3_lineIn_17 rfl (lv_at hl 0 rfl) ?_
    refine va_get (D := D) (ci := 3) (v := .int (nI 0)) (C := RX3) (T := TX3) (N := 16) hx hb hts hi_RX3 hown hK hP 0 rfl rfl 15 (by decide) hf_44 (fun _ h9 => h9) rfl dX3_lineIn_18 ?_
    refine mq_nz (x := 0) (tgt := 33) (by omega) hx hb dX3_lineIn_21 (by decide) (fun c2 => ?_) (fun c2 => ?_)
    · exact absurd c2 (by decide)
    · refine lv_aload_n hx hb dX3_lineIn_24 rfl (lv_at hl 0 rfl) ?_
      refine va_get (D := D) (ci := 3) (v := .ref a5) (C := RX3) (T := TX3) (N := 16) hx hb hts hi_RX3 hown hK hP 0 rfl rfl 4 (by decide) hf_22 (fun _ h9 => h9) rfl dX3_lineIn_25 ?_
      refine lv_iload_n hx hb dX3_lineIn_28 rfl (lv_at hl 1 rfl) ?_
      refine mq_ld (k := k) oI ml hx hb hK hP 5 0 rfl rfl (by omega) (Nat.le_of_ble_eq_true rfl) dX3_lineIn_29 ?_
      refine lv_goto (tgt := 34) hx hb dX3_lineIn_30 (by decide) ?_
      exact CtI.ret hQ hx hb hr hlk hK hP hD hS dX3_lineIn_34 rfl (congrArg (MDc cyI h a1 a2 a3 a4 a5 a6 a7 a8 a9 a10) rfl)
set_option maxRecDepth 100000 in
set_option maxHeartbeats 4000000 in
theorem m_lineInN (l : Launch) (D : va_G) (cyI cyZ cyJ : ClassId) (h a1 a2 a3 a4 a5 a6 a7 a8 a9 a10 : Nat) (mw : Nat → Int32) (mh : Nat → Int32) (ms : Nat → Nat) (mp : Nat → Nat) (ml : Nat → Option Nat) (mb : Nat → Nat) (mm : Nat → Nat) (md : Nat → Bool) (mc : Nat → Int32) (mhi : Int32) (msw : Int32) (mmi : Int32) (mhc : Int32) (ma : Nat → Nat) (mq : Nat) (mt : Nat) (x : Int32) (hbad : x < 0 ∨ nI (ms 0) ≤ x) : CtI l yX3_lineIn wsX3_lineIn rmX3_lineIn D (T3 cyI cyZ cyJ) [.ref h, .int x] (MDc cyI h a1 a2 a3 a4 a5 a6 a7 a8 a9 a10 (mw, mh, ms, mp, ml, mb, mm, md, mc, mhi, msw, mmi, mhc, ma, mq, mt)) (nI 0) (MDc cyI h a1 a2 a3 a4 a5 a6 a7 a8 a9 a10 (md_thr 1 (mw, mh, ms, mp, ml, mb, mm, md, mc, mhi, msw, mmi, mhc, ma, mq, mt))) := by
  refine CtI.of (cc := cX3_lineIn) (maxL := 2) (ret := (some .int)) (lv0 := [(0, .ref h), (1, .int x)]) (by decide) rfl (Nat.le_of_ble_eq_true rfl) rfl ?_
  intro p e s m below meth c A ls args Q hx hb hml hr hlk hts hown hK hP hA hD hS hl hQ
  have hown : s.vm.findClass RX3 = some m.cls := hown
  have hi_RX3 : ∀ w ∈ wsX30, w ∈ wsX3_lineIn := by decide +kernel
  have hf_44 := hts (.fieldLink RX3 44 "OutcastBenchModel" "thrown" "I") (by decide +kernel)
  refine lv_aload_n hx hb dX3_lineIn_0 rfl (lv_at hl 0 rfl) ?_
  refine lv_aload_n hx hb dX3_lineIn_1 rfl (lv_at hl 0 rfl) ?_
  refine lv_iload_n hx hb dX3_lineIn_2 rfl (lv_at hl 1 rfl) ?_
  refine CtI.callV (n := 1) (q0 := 0) (ci := 3) (wc := MDc cyI h a1 a2 a3 a4 a5 a6 a7 a8 a9 a10 (mw, mh, ms, mp, ml, mb, mm, md, mc, mhi, msw, mmi, mhc, ma, mq, mt)) (wr := ([] : va_W)) (w1 := MDc cyI h a1 a2 a3 a4 a5 a6 a7 a8 a9 a10 (mw, mh, ms, mp, ml, mb, mm, md, mc, mhi, msw, mmi, mhc, ma, mq, mt)) (ws' := MDc cyI h a1 a2 a3 a4 a5 a6 a7 a8 a9 a10 (mw, mh, ms, mp, ml, mb, mm, md, mc, mhi, msw, mmi, mhc, ma, mq, mt)) (isC := [0, 1, 2, 3, 4, 5, 6, 7, 8, 9, 10]) (isR := []) (ps := [0, 1, 2, 3, 4, 5, 6, 7, 8, 9, 10]) (As := [.int x]) (rest := [.ref h]) (m_isSetN l D cyI cyZ cyJ h a1 a2 a3 a4 a5 a6 a7 a8 a9 a10 mw mh ms mp ml mb mm md mc mhi msw mmi mhc ma mq mt x hbad) ⟨hx, hb, hown, hts⟩ gX3_lineIn_X3_isSet rfl ⟨rfl, by decide, by decide, by decide +kernel⟩ ⟨Nat.le_of_ble_eq_true rfl, Nat.le_of_ble_eq_true rfl⟩ ⟨rfl, rfl⟩ hml hl.1 hK hP hD hS hA ⟨rfl, rfl, rfl, rfl, rfl, rfl, rfl⟩ rfl ⟨rfl, rfl⟩ rfl rfl (Nat.le_of_ble_eq_true rfl) ⟨Nat.zero_le _, Nat.zero_le _⟩ dX3_lineIn_3 (fun H locs hP hD hS => ?_)
  refine mq_bz (b := false) (tgt := 13) hx hb dX3_lineIn_6 (by decide) (fun c1 => ?_) (fun c1 => ?_)
  · refine lv_iconst (v := nI 1) hx hb dX3_lineIn_13 (by decide) ?_
    refine mq_put (D := D) (ci := 3) (v := .int (nI 1)) (ty := .int) (C := RX3) (T := TX3) (N := 16) (ws' := MDc cyI h a1 a2 a3 a4 a5 a6 a7 a8 a9 a10 (mw, mh, ms, mp, ml, mb, mm, md, mc, mhi, msw, mmi, mhc, ma, mq, 1)) hx hb hts hi_RX3 tyX3 tyX3_ok nmX3 hown hK hP hD hS 0 rfl rfl 15 (by decide) hf_44 (fun _ h9 => h9) rfl (by decide +kernel) rfl rfl (Nat.le_of_ble_eq_true rfl) dX3_lineIn_14 rfl (fun H locs hP hD hS => ?_)
    refine lv_aload_n hx hb dX3_lineIn_17 rfl (lv_at hl 0 rfl) ?_
    refine va_get (D := D) (ci := 3) (v := .int (nI 1)) (C := RX3) (T := TX3) (N := 16) hx hb hts hi_RX3 hown hK hP 0 rfl rfl 15 (by decide) hf_44 (fun _ h9 => h9) rfl dX3_lineIn_18 ?_
    refine mq_nz (x := 1) (tgt := 33) (by omega) hx hb dX3_lineIn_21 (by decide) (fun c2 => ?_) (fun c2 => ?_)
    · refine lv_iconst (v := nI 0) hx hb dX3_lineIn_33 (by decide) ?_
      exact CtI.ret hQ hx hb hr hlk hK hP hD hS dX3_lineIn_34 rfl (congrArg (MDc cyI h a1 a2 a3 a4 a5 a6 a7 a8 a9 a10) rfl)
    · exact absurd c2 (by decide)
  · exact absurd c1 (by decide)
abbrev rmX3_lineOnBench : Room := { frames := 0, cells := 0, slots := 0, locals := 0 }
set_option maxRecDepth 100000 in
set_option maxHeartbeats 4000000 in
theorem m_lineOnBench (l : Launch) (D : va_G) (cyI cyZ cyJ : ClassId) (h a1 a2 a3 a4 a5 a6 a7 a8 a9 a10 : Nat) (mw : Nat → Int32) (mh : Nat → Int32) (ms : Nat → Nat) (mp : Nat → Nat) (ml : Nat → Option Nat) (mb : Nat → Nat) (mm : Nat → Nat) (md : Nat → Bool) (mc : Nat → Int32) (mhi : Int32) (msw : Int32) (mmi : Int32) (mhc : Int32) (ma : Nat → Nat) (mq : Nat) (mt : Nat) (k : Nat) (hm8 : mm 0 ≤ 8) (hk : k < mm 0) : CtI l yX3_lineOnBench wsX3_lineOnBench rmX3_lineOnBench D (T3 cyI cyZ cyJ) [.ref h, .int (nI k)] (MDc cyI h a1 a2 a3 a4 a5 a6 a7 a8 a9 a10 (mw, mh, ms, mp, ml, mb, mm, md, mc, mhi, msw, mmi, mhc, ma, mq, mt)) (nI (mb k)) (MDc cyI h a1 a2 a3 a4 a5 a6 a7 a8 a9 a10 (md_thr 0 (mw, mh, ms, mp, ml, mb, mm, md, mc, mhi, msw, mmi, mhc, ma, mq, mt))) := by
  refine CtI.of (cc := cX3_lineOnBench) (maxL := 2) (ret := (some .int)) (lv0 := [(0, .ref h), (1, .int (nI k))]) (by decide) rfl (Nat.le_of_ble_eq_true rfl) rfl ?_
  intro p e s m below meth c A ls args Q hx hb hml hr hlk hts hown hK hP hA hD hS hl hQ
  have hown : s.vm.findClass RX3 = some m.cls := hown
  have hi_RX3 : ∀ w ∈ wsX30, w ∈ wsX3_lineOnBench := by decide +kernel
  have hf_25 := hts (.fieldLink RX3 25 "OutcastBenchModel" "bench" "[I") (by decide +kernel)
  have hf_28 := hts (.fieldLink RX3 28 "OutcastBenchModel" "many" "[I") (by decide +kernel)
  have hf_44 := hts (.fieldLink RX3 44 "OutcastBenchModel" "thrown" "I") (by decide +kernel)
  refine lv_aload_n hx hb dX3_lineOnBench_0 rfl (lv_at hl 0 rfl) ?_
  refine lv_iload_n hx hb dX3_lineOnBench_1 rfl (lv_at hl 1 rfl) ?_
  refine lv_if_lt (x := nI k) (tgt := 19) hx hb dX3_lineOnBench_2 (by decide) (fun c1 => ?_) (fun c1 => ?_)
  · exact absurd c1 (nI_pos (by omega))
  · refine lv_iload_n hx hb dX3_lineOnBench_5 rfl (lv_at hl 1 rfl) ?_
    refine lv_aload_n hx hb dX3_lineOnBench_6 rfl (lv_at hl 0 rfl) ?_
    refine va_get (D := D) (ci := 3) (v := .ref a7) (C := RX3) (T := TX3) (N := 16) hx hb hts hi_RX3 hown hK hP 0 rfl rfl 6 (by decide) hf_28 (fun _ h9 => h9) rfl dX3_lineOnBench_7 ?_
    refine lv_iconst (v := nI 0) hx hb dX3_lineOnBench_10 (by decide) ?_
    refine mq_ld (k := 0) nI mm hx hb hK hP 7 0 rfl rfl (by omega) (Nat.le_of_ble_eq_true rfl) dX3_lineOnBench_11 ?_
    refine mq_ge (x := k) (y := (mm 0)) (tgt := 19) (by omega) (by omega) hx hb dX3_lineOnBench_12 (by decide) (fun c2 => ?_) (fun c2 => ?_)
    · exact absurd hk (by omega)
    · refine lv_iconst (v := nI 0) hx hb dX3_lineOnBench_15 (by decide) ?_
      refine lv_goto (tgt := 20) hx hb dX3_lineOnBench_16 (by decide) ?_
      refine mq_put (D := D) (ci := 3) (v := .int (nI 0)) (ty := .int) (C := RX3) (T := TX3) (N := 16) (ws' := MDc cyI h a1 a2 a3 a4 a5 a6 a7 a8 a9 a10 (mw, mh, ms, mp, ml, mb, mm, md, mc, mhi, msw, mmi, mhc, ma, mq, 0)) hx hb hts hi_RX3 tyX3 tyX3_ok nmX3 hown hK hP hD hS 0 rfl rfl 15 (by decide) hf_44 (fun _ h9 => h9) rfl (by decide +kernel) rfl rfl (Nat.le_of_ble_eq_true rfl) dX3_lineOnBench_20 rfl (fun H locs hP hD hS => ?_)
      refine lv_aload_n hx hb dX3_lineOnBench_23 rfl (lv_at hl 0 rfl) ?_
      refine va_get (D := D) (ci := 3) (v := .int (nI 0)) (C := RX3) (T := TX3) (N := 16) hx hb hts hi_RX3 hown hK hP 0 rfl rfl 15 (by decide) hf_44 (fun _ h9 => h9) rfl dX3_lineOnBench_24 ?_
      refine mq_nz (x := 0) (tgt := 39) (by omega) hx hb dX3_lineOnBench_27 (by decide) (fun c1 => ?_) (fun c1 => ?_)
      · exact absurd c1 (by decide)
      · refine lv_aload_n hx hb dX3_lineOnBench_30 rfl (lv_at hl 0 rfl) ?_
        refine va_get (D := D) (ci := 3) (v := .ref a6) (C := RX3) (T := TX3) (N := 16) hx hb hts hi_RX3 hown hK hP 0 rfl rfl 5 (by decide) hf_25 (fun _ h9 => h9) rfl dX3_lineOnBench_31 ?_
        refine lv_iload_n hx hb dX3_lineOnBench_34 rfl (lv_at hl 1 rfl) ?_
        refine mq_ld (k := k) nI mb hx hb hK hP 6 0 rfl rfl (by omega) (Nat.le_of_ble_eq_true rfl) dX3_lineOnBench_35 ?_
        refine lv_goto (tgt := 40) hx hb dX3_lineOnBench_36 (by decide) ?_
        exact CtI.ret hQ hx hb hr hlk hK hP hD hS dX3_lineOnBench_40 rfl (congrArg (MDc cyI h a1 a2 a3 a4 a5 a6 a7 a8 a9 a10) rfl)
set_option maxRecDepth 100000 in
set_option maxHeartbeats 4000000 in
theorem m_lineOnBenchN (l : Launch) (D : va_G) (cyI cyZ cyJ : ClassId) (h a1 a2 a3 a4 a5 a6 a7 a8 a9 a10 : Nat) (mw : Nat → Int32) (mh : Nat → Int32) (ms : Nat → Nat) (mp : Nat → Nat) (ml : Nat → Option Nat) (mb : Nat → Nat) (mm : Nat → Nat) (md : Nat → Bool) (mc : Nat → Int32) (mhi : Int32) (msw : Int32) (mmi : Int32) (mhc : Int32) (ma : Nat → Nat) (mq : Nat) (mt : Nat) (x : Int32) (hbad : x < 0 ∨ nI (mm 0) ≤ x) : CtI l yX3_lineOnBench wsX3_lineOnBench rmX3_lineOnBench D (T3 cyI cyZ cyJ) [.ref h, .int x] (MDc cyI h a1 a2 a3 a4 a5 a6 a7 a8 a9 a10 (mw, mh, ms, mp, ml, mb, mm, md, mc, mhi, msw, mmi, mhc, ma, mq, mt)) (nI 0) (MDc cyI h a1 a2 a3 a4 a5 a6 a7 a8 a9 a10 (md_thr 1 (mw, mh, ms, mp, ml, mb, mm, md, mc, mhi, msw, mmi, mhc, ma, mq, mt))) := by
  refine CtI.of (cc := cX3_lineOnBench) (maxL := 2) (ret := (some .int)) (lv0 := [(0, .ref h), (1, .int x)]) (by decide) rfl (Nat.le_of_ble_eq_true rfl) rfl ?_
  intro p e s m below meth c A ls args Q hx hb hml hr hlk hts hown hK hP hA hD hS hl hQ
  have hown : s.vm.findClass RX3 = some m.cls := hown
  have hi_RX3 : ∀ w ∈ wsX30, w ∈ wsX3_lineOnBench := by decide +kernel
  have hf_28 := hts (.fieldLink RX3 28 "OutcastBenchModel" "many" "[I") (by decide +kernel)
  have hf_44 := hts (.fieldLink RX3 44 "OutcastBenchModel" "thrown" "I") (by decide +kernel)
  refine lv_aload_n hx hb dX3_lineOnBench_0 rfl (lv_at hl 0 rfl) ?_
  refine lv_iload_n hx hb dX3_lineOnBench_1 rfl (lv_at hl 1 rfl) ?_
  refine lv_if_lt (x := x) (tgt := 19) hx hb dX3_lineOnBench_2 (by decide) (fun c1 => ?_) (fun c1 => ?_)
  · refine lv_iconst (v := nI 1) hx hb dX3_lineOnBench_19 (by decide) ?_
    refine mq_put (D := D) (ci := 3) (v := .int (nI 1)) (ty := .int) (C := RX3) (T := TX3) (N := 16) (ws' := MDc cyI h a1 a2 a3 a4 a5 a6 a7 a8 a9 a10 (mw, mh, ms, mp, ml, mb, mm, md, mc, mhi, msw, mmi, mhc, ma, mq, 1)) hx hb hts hi_RX3 tyX3 tyX3_ok nmX3 hown hK hP hD hS 0 rfl rfl 15 (by decide) hf_44 (fun _ h9 => h9) rfl (by decide +kernel) rfl rfl (Nat.le_of_ble_eq_true rfl) dX3_lineOnBench_20 rfl (fun H locs hP hD hS => ?_)
    refine lv_aload_n hx hb dX3_lineOnBench_23 rfl (lv_at hl 0 rfl) ?_
    refine va_get (D := D) (ci := 3) (v := .int (nI 1)) (C := RX3) (T := TX3) (N := 16) hx hb hts hi_RX3 hown hK hP 0 rfl rfl 15 (by decide) hf_44 (fun _ h9 => h9) rfl dX3_lineOnBench_24 ?_
    refine mq_nz (x := 1) (tgt := 39) (by omega) hx hb dX3_lineOnBench_27 (by decide) (fun c1 => ?_) (fun c1 => ?_)
    · refine lv_iconst (v := nI 0) hx hb dX3_lineOnBench_39 (by decide) ?_
      exact CtI.ret hQ hx hb hr hlk hK hP hD hS dX3_lineOnBench_40 rfl (congrArg (MDc cyI h a1 a2 a3 a4 a5 a6 a7 a8 a9 a10) rfl)
    · exact absurd c1 (by decide)
  · refine lv_iload_n hx hb dX3_lineOnBench_5 rfl (lv_at hl 1 rfl) ?_
    refine lv_aload_n hx hb dX3_lineOnBench_6 rfl (lv_at hl 0 rfl) ?_
    refine va_get (D := D) (ci := 3) (v := .ref a7) (C := RX3) (T := TX3) (N := 16) hx hb hts hi_RX3 hown hK hP 0 rfl rfl 6 (by decide) hf_28 (fun _ h9 => h9) rfl dX3_lineOnBench_7 ?_
    refine lv_iconst (v := nI 0) hx hb dX3_lineOnBench_10 (by decide) ?_
    refine mq_ld (k := 0) nI mm hx hb hK hP 7 0 rfl rfl (by omega) (Nat.le_of_ble_eq_true rfl) dX3_lineOnBench_11 ?_
    refine lv_icmp_ge (x := x) (y := nI (mm 0)) (tgt := 19) hx hb dX3_lineOnBench_12 (by decide) (fun c2 => ?_) (fun c2 => ?_)
    · refine lv_iconst (v := nI 1) hx hb dX3_lineOnBench_19 (by decide) ?_
      refine mq_put (D := D) (ci := 3) (v := .int (nI 1)) (ty := .int) (C := RX3) (T := TX3) (N := 16) (ws' := MDc cyI h a1 a2 a3 a4 a5 a6 a7 a8 a9 a10 (mw, mh, ms, mp, ml, mb, mm, md, mc, mhi, msw, mmi, mhc, ma, mq, 1)) hx hb hts hi_RX3 tyX3 tyX3_ok nmX3 hown hK hP hD hS 0 rfl rfl 15 (by decide) hf_44 (fun _ h9 => h9) rfl (by decide +kernel) rfl rfl (Nat.le_of_ble_eq_true rfl) dX3_lineOnBench_20 rfl (fun H locs hP hD hS => ?_)
      refine lv_aload_n hx hb dX3_lineOnBench_23 rfl (lv_at hl 0 rfl) ?_
      refine va_get (D := D) (ci := 3) (v := .int (nI 1)) (C := RX3) (T := TX3) (N := 16) hx hb hts hi_RX3 hown hK hP 0 rfl rfl 15 (by decide) hf_44 (fun _ h9 => h9) rfl dX3_lineOnBench_24 ?_
      refine mq_nz (x := 1) (tgt := 39) (by omega) hx hb dX3_lineOnBench_27 (by decide) (fun c2 => ?_) (fun c2 => ?_)
      · refine lv_iconst (v := nI 0) hx hb dX3_lineOnBench_39 (by decide) ?_
        exact CtI.ret hQ hx hb hr hlk hK hP hD hS dX3_lineOnBench_40 rfl (congrArg (MDc cyI h a1 a2 a3 a4 a5 a6 a7 a8 a9 a10) rfl)
      · exact absurd c2 (by decide)
    · exact absurd hbad (fun hh => hh.elim c1 c2)
abbrev rmX3_placeOf : Room := { frames := 1, cells := 0, slots := 0, locals := 23 }
set_option maxRecDepth 100000 in
set_option maxHeartbeats 4000000 in
theorem m_placeOf (l : Launch) (D : va_G) (cyI cyZ cyJ : ClassId) (h a1 a2 a3 a4 a5 a6 a7 a8 a9 a10 : Nat) (mw : Nat → Int32) (mh : Nat → Int32) (ms : Nat → Nat) (mp : Nat → Nat) (ml : Nat → Option Nat) (mb : Nat → Nat) (mm : Nat → Nat) (md : Nat → Bool) (mc : Nat → Int32) (mhi : Int32) (msw : Int32) (mmi : Int32) (mhc : Int32) (ma : Nat → Nat) (mq : Nat) (mt : Nat) (q : Nat) (hb9 : md_bd 0 (mw, mh, ms, mp, ml, mb, mm, md, mc, mhi, msw, mmi, mhc, ma, mq, mt)) (hq : q < 256) : CtI l yX3_placeOf wsX3_placeOf rmX3_placeOf D (T3 cyI cyZ cyJ) [.ref h, .int (nI q)] (MDc cyI h a1 a2 a3 a4 a5 a6 a7 a8 a9 a10 (mw, mh, ms, mp, ml, mb, mm, md, mc, mhi, msw, mmi, mhc, ma, mq, mt)) (nI (md_where q (mw, mh, ms, mp, ml, mb, mm, md, mc, mhi, msw, mmi, mhc, ma, mq, mt))) (MDc cyI h a1 a2 a3 a4 a5 a6 a7 a8 a9 a10 (md_thr 0 (mw, mh, ms, mp, ml, mb, mm, md, mc, mhi, msw, mmi, mhc, ma, mq, mt))) := by
  refine CtI.of (cc := cX3_placeOf) (maxL := 2) (ret := (some .int)) (lv0 := [(0, .ref h), (1, .int (nI q))]) (by decide) rfl (Nat.le_of_ble_eq_true rfl) rfl ?_
  intro p e s m below meth c A ls args Q hx hb hml hr hlk hts hown hK hP hA hD hS hl hQ
  have hown : s.vm.findClass RX3 = some m.cls := hown
  have hi_RX3 : ∀ w ∈ wsX30, w ∈ wsX3_placeOf := by decide +kernel
  have hf_16 := hts (.fieldLink RX3 16 "OutcastBenchModel" "sets" "[I") (by decide +kernel)
  have hf_22 := hts (.fieldLink RX3 22 "OutcastBenchModel" "lineOf" "[I") (by decide +kernel)
  have hb0 := hb9
  obtain ⟨hms, hmp, hmm, hml8, hmb8⟩ := hb0
  have hs16 := mod16 q hms
  refine lv_aload_n hx hb dX3_placeOf_0 rfl (lv_at hl 0 rfl) ?_
  refine lv_iload_n hx hb dX3_placeOf_1 rfl (lv_at hl 1 rfl) ?_
  refine CtI.callV (n := 1) (q0 := 0) (ci := 3) (wc := MDc cyI h a1 a2 a3 a4 a5 a6 a7 a8 a9 a10 (mw, mh, ms, mp, ml, mb, mm, md, mc, mhi, msw, mmi, mhc, ma, mq, mt)) (wr := ([] : va_W)) (w1 := MDc cyI h a1 a2 a3 a4 a5 a6 a7 a8 a9 a10 (mw, mh, ms, mp, ml, mb, mm, md, mc, mhi, msw, mmi, mhc, ma, mq, 0)) (ws' := MDc cyI h a1 a2 a3 a4 a5 a6 a7 a8 a9 a10 (mw, mh, ms, mp, ml, mb, mm, md, mc, mhi, msw, mmi, mhc, ma, mq, 0)) (isC := [0, 1, 2, 3, 4, 5, 6, 7, 8, 9, 10]) (isR := []) (ps := [0, 1, 2, 3, 4, 5, 6, 7, 8, 9, 10]) (As := [.int (nI q)]) (rest := []) (m_isLine l D cyI cyZ cyJ h a1 a2 a3 a4 a5 a6 a7 a8 a9 a10 mw mh ms mp ml mb mm md mc mhi msw mmi mhc ma mq mt q hq) ⟨hx, hb, hown, hts⟩ gX3_placeOf_X3_isLine rfl ⟨rfl, by decide, by decide, by decide +kernel⟩ ⟨Nat.le_of_ble_eq_true rfl, Nat.le_of_ble_eq_true rfl⟩ ⟨rfl, rfl⟩ hml hl.1 hK hP hD hS hA ⟨rfl, rfl, rfl, rfl, rfl, rfl, rfl⟩ rfl ⟨rfl, rfl⟩ rfl rfl (Nat.le_of_ble_eq_true rfl) ⟨Nat.zero_le _, Nat.zero_le _⟩ dX3_placeOf_2 (fun H locs hP hD hS => ?_)
  refine mq_bnz (b := true) (tgt := 12) hx hb dX3_placeOf_5 (by decide) (fun c1 => ?_) (fun c1 => ?_)
  · refine lv_aload_n hx hb dX3_placeOf_12 rfl (lv_at hl 0 rfl) ?_
    refine va_get (D := D) (ci := 3) (v := .ref a5) (C := RX3) (T := TX3) (N := 16) hx hb hts hi_RX3 hown hK hP 0 rfl rfl 4 (by decide) hf_22 (fun _ h9 => h9) rfl dX3_placeOf_13 ?_
    refine lv_iload_n hx hb dX3_placeOf_16 rfl (lv_at hl 1 rfl) ?_
    refine lv_aload_n hx hb dX3_placeOf_17 rfl (lv_at hl 0 rfl) ?_
    refine va_get (D := D) (ci := 3) (v := .ref a3) (C := RX3) (T := TX3) (N := 16) hx hb hts hi_RX3 hown hK hP 0 rfl rfl 2 (by decide) hf_16 (fun _ h9 => h9) rfl dX3_placeOf_18 ?_
    refine lv_iconst (v := nI 0) hx hb dX3_placeOf_21 (by decide) ?_
    refine mq_ld (k := 0) nI ms hx hb hK hP 3 0 rfl rfl (by omega) (Nat.le_of_ble_eq_true rfl) dX3_placeOf_22 ?_
    refine mq_irem (x := q) (y := (ms 0)) (by omega) (by omega) (by omega) hx hb dX3_placeOf_23 ?_
    refine mq_ld (k := (q % (ms 0))) oI ml hx hb hK hP 5 0 rfl rfl (by omega) (Nat.le_of_ble_eq_true rfl) dX3_placeOf_24 ?_
    rcases hls : ml (q % ms 0) with _ | r
    · refine lv_iload_n hx hb dX3_placeOf_25 rfl (lv_at hl 1 rfl) ?_
      refine lv_icmp_ne (x := oI none) (y := nI q) (tgt := 33) hx hb dX3_placeOf_26 (by decide) (fun c1 => ?_) (fun c1 => ?_)
      · have hnh : ¬ ml (q % ms 0) = some q := by rw [hls]; simp
        refine lv_aload_n hx hb dX3_placeOf_33 rfl (lv_at hl 0 rfl) ?_
        refine lv_iconst (v := nI 0) hx hb dX3_placeOf_34 (by decide) ?_
        refine lv_iload_n hx hb dX3_placeOf_35 rfl (lv_at hl 1 rfl) ?_
        refine CtI.callV (n := 2) (q0 := 0) (ci := 3) (wc := MDc cyI h a1 a2 a3 a4 a5 a6 a7 a8 a9 a10 (mw, mh, ms, mp, ml, mb, mm, md, mc, mhi, msw, mmi, mhc, ma, mq, 0)) (wr := ([] : va_W)) (w1 := MDc cyI h a1 a2 a3 a4 a5 a6 a7 a8 a9 a10 (mw, mh, ms, mp, ml, mb, mm, md, mc, mhi, msw, mmi, mhc, ma, mq, 0)) (ws' := MDc cyI h a1 a2 a3 a4 a5 a6 a7 a8 a9 a10 (mw, mh, ms, mp, ml, mb, mm, md, mc, mhi, msw, mmi, mhc, ma, mq, 0)) (isC := [0, 1, 2, 3, 4, 5, 6, 7, 8, 9, 10]) (isR := []) (ps := [0, 1, 2, 3, 4, 5, 6, 7, 8, 9, 10]) (As := [.int (nI 0), .int (nI q)]) (rest := []) (m_seat l D cyI cyZ cyJ h a1 a2 a3 a4 a5 a6 a7 a8 a9 a10 mw mh ms mp ml mb mm md mc mhi msw mmi mhc ma mq 0 0 q (by decide) (by omega) hmb8 hq) ⟨hx, hb, hown, hts⟩ gX3_placeOf_X3_seat rfl ⟨rfl, by decide, by decide, by decide +kernel⟩ ⟨Nat.le_of_ble_eq_true rfl, Nat.le_of_ble_eq_true rfl⟩ ⟨rfl, rfl⟩ hml hl.1 hK hP hD hS hA ⟨rfl, rfl, rfl, rfl, rfl, rfl, rfl⟩ rfl ⟨rfl, rfl⟩ rfl rfl (Nat.le_of_ble_eq_true rfl) ⟨Nat.zero_le _, Nat.zero_le _⟩ dX3_placeOf_36 (fun H locs hP hD hS => ?_)
        rcases hse : fnd (fun k => decide (mb (8 * 0 + k) = q)) (mm 0) with _ | k
        · refine lv_if_lt (x := oI none) (tgt := 46) hx hb dX3_placeOf_39 (by decide) (fun c3 => ?_) (fun c3 => ?_)
          · refine lv_iconst (v := nI 0) hx hb dX3_placeOf_46 (by decide) ?_
            exact CtI.ret hQ hx hb hr hlk hK hP hD hS dX3_placeOf_47 (by unfold md_where; dsimp only; rw [if_neg hnh, hse]; rfl) (congrArg (MDc cyI h a1 a2 a3 a4 a5 a6 a7 a8 a9 a10) rfl)
          · exact absurd (show oI none < 0 by decide) c3
        · obtain ⟨hkn, hkq, -⟩ := fnd_of_some hse
          refine lv_if_lt (x := nI k) (tgt := 46) hx hb dX3_placeOf_39 (by decide) (fun c3 => ?_) (fun c3 => ?_)
          · exact absurd c3 (nI_pos (by omega))
          · refine lv_iconst (v := nI 2) hx hb dX3_placeOf_42 (by decide) ?_
            refine lv_goto (tgt := 47) hx hb dX3_placeOf_43 (by decide) ?_
            exact CtI.ret hQ hx hb hr hlk hK hP hD hS dX3_placeOf_47 (by unfold md_where; dsimp only; rw [if_neg hnh, hse]; rfl) (congrArg (MDc cyI h a1 a2 a3 a4 a5 a6 a7 a8 a9 a10) rfl)
      · exact absurd (show nI q = -1 by first | exact c1.symm | (by_cases hh : oI none = nI q; exact hh.symm; exact absurd hh c1)) (nI_m1 (by omega))
    · have hr8 : r < 256 := hml8 (q % ms 0) r hs16 (by rw [show 16 * 0 + q % ms 0 = q % ms 0 by omega]; exact hls)
      refine lv_iload_n hx hb dX3_placeOf_25 rfl (lv_at hl 1 rfl) ?_
      refine mq_ne (x := r) (y := q) (tgt := 33) (by omega) (by omega) hx hb dX3_placeOf_26 (by decide) (fun c1 => ?_) (fun c1 => ?_)
      · have hnh : ¬ ml (q % ms 0) = some q := by rw [hls]; simpa using c1
        refine lv_aload_n hx hb dX3_placeOf_33 rfl (lv_at hl 0 rfl) ?_
        refine lv_iconst (v := nI 0) hx hb dX3_placeOf_34 (by decide) ?_
        refine lv_iload_n hx hb dX3_placeOf_35 rfl (lv_at hl 1 rfl) ?_
        refine CtI.callV (n := 2) (q0 := 0) (ci := 3) (wc := MDc cyI h a1 a2 a3 a4 a5 a6 a7 a8 a9 a10 (mw, mh, ms, mp, ml, mb, mm, md, mc, mhi, msw, mmi, mhc, ma, mq, 0)) (wr := ([] : va_W)) (w1 := MDc cyI h a1 a2 a3 a4 a5 a6 a7 a8 a9 a10 (mw, mh, ms, mp, ml, mb, mm, md, mc, mhi, msw, mmi, mhc, ma, mq, 0)) (ws' := MDc cyI h a1 a2 a3 a4 a5 a6 a7 a8 a9 a10 (mw, mh, ms, mp, ml, mb, mm, md, mc, mhi, msw, mmi, mhc, ma, mq, 0)) (isC := [0, 1, 2, 3, 4, 5, 6, 7, 8, 9, 10]) (isR := []) (ps := [0, 1, 2, 3, 4, 5, 6, 7, 8, 9, 10]) (As := [.int (nI 0), .int (nI q)]) (rest := []) (m_seat l D cyI cyZ cyJ h a1 a2 a3 a4 a5 a6 a7 a8 a9 a10 mw mh ms mp ml mb mm md mc mhi msw mmi mhc ma mq 0 0 q (by decide) (by omega) hmb8 hq) ⟨hx, hb, hown, hts⟩ gX3_placeOf_X3_seat rfl ⟨rfl, by decide, by decide, by decide +kernel⟩ ⟨Nat.le_of_ble_eq_true rfl, Nat.le_of_ble_eq_true rfl⟩ ⟨rfl, rfl⟩ hml hl.1 hK hP hD hS hA ⟨rfl, rfl, rfl, rfl, rfl, rfl, rfl⟩ rfl ⟨rfl, rfl⟩ rfl rfl (Nat.le_of_ble_eq_true rfl) ⟨Nat.zero_le _, Nat.zero_le _⟩ dX3_placeOf_36 (fun H locs hP hD hS => ?_)
        rcases hse : fnd (fun k => decide (mb (8 * 0 + k) = q)) (mm 0) with _ | k
        · refine lv_if_lt (x := oI none) (tgt := 46) hx hb dX3_placeOf_39 (by decide) (fun c3 => ?_) (fun c3 => ?_)
          · refine lv_iconst (v := nI 0) hx hb dX3_placeOf_46 (by decide) ?_
            exact CtI.ret hQ hx hb hr hlk hK hP hD hS dX3_placeOf_47 (by unfold md_where; dsimp only; rw [if_neg hnh, hse]; rfl) (congrArg (MDc cyI h a1 a2 a3 a4 a5 a6 a7 a8 a9 a10) rfl)
          · exact absurd (show oI none < 0 by decide) c3
        · obtain ⟨hkn, hkq, -⟩ := fnd_of_some hse
          refine lv_if_lt (x := nI k) (tgt := 46) hx hb dX3_placeOf_39 (by decide) (fun c3 => ?_) (fun c3 => ?_)
          · exact absurd c3 (nI_pos (by omega))
          · refine lv_iconst (v := nI 2) hx hb dX3_placeOf_42 (by decide) ?_
            refine lv_goto (tgt := 47) hx hb dX3_placeOf_43 (by decide) ?_
            exact CtI.ret hQ hx hb hr hlk hK hP hD hS dX3_placeOf_47 (by unfold md_where; dsimp only; rw [if_neg hnh, hse]; rfl) (congrArg (MDc cyI h a1 a2 a3 a4 a5 a6 a7 a8 a9 a10) rfl)
      · subst c1
        refine lv_iconst (v := nI 1) hx hb dX3_placeOf_29 (by decide) ?_
        refine lv_goto (tgt := 47) hx hb dX3_placeOf_30 (by decide) ?_
        exact CtI.ret hQ hx hb hr hlk hK hP hD hS dX3_placeOf_47 (by unfold md_where; dsimp only; rw [if_pos hls]) (congrArg (MDc cyI h a1 a2 a3 a4 a5 a6 a7 a8 a9 a10) rfl)
  · exact absurd c1 (by decide)
set_option maxRecDepth 100000 in
set_option maxHeartbeats 4000000 in
theorem m_placeOfN (l : Launch) (D : va_G) (cyI cyZ cyJ : ClassId) (h a1 a2 a3 a4 a5 a6 a7 a8 a9 a10 : Nat) (mw : Nat → Int32) (mh : Nat → Int32) (ms : Nat → Nat) (mp : Nat → Nat) (ml : Nat → Option Nat) (mb : Nat → Nat) (mm : Nat → Nat) (md : Nat → Bool) (mc : Nat → Int32) (mhi : Int32) (msw : Int32) (mmi : Int32) (mhc : Int32) (ma : Nat → Nat) (mq : Nat) (mt : Nat) (x : Int32) (hbad : x < 0 ∨ nI 256 ≤ x) : CtI l yX3_placeOf wsX3_placeOf rmX3_placeOf D (T3 cyI cyZ cyJ) [.ref h, .int x] (MDc cyI h a1 a2 a3 a4 a5 a6 a7 a8 a9 a10 (mw, mh, ms, mp, ml, mb, mm, md, mc, mhi, msw, mmi, mhc, ma, mq, mt)) (nI 0) (MDc cyI h a1 a2 a3 a4 a5 a6 a7 a8 a9 a10 (md_thr 1 (mw, mh, ms, mp, ml, mb, mm, md, mc, mhi, msw, mmi, mhc, ma, mq, mt))) := by
  refine CtI.of (cc := cX3_placeOf) (maxL := 2) (ret := (some .int)) (lv0 := [(0, .ref h), (1, .int x)]) (by decide) rfl (Nat.le_of_ble_eq_true rfl) rfl ?_
  intro p e s m below meth c A ls args Q hx hb hml hr hlk hts hown hK hP hA hD hS hl hQ
  have hown : s.vm.findClass RX3 = some m.cls := hown
  refine lv_aload_n hx hb dX3_placeOf_0 rfl (lv_at hl 0 rfl) ?_
  refine lv_iload_n hx hb dX3_placeOf_1 rfl (lv_at hl 1 rfl) ?_
  refine CtI.callV (n := 1) (q0 := 0) (ci := 3) (wc := MDc cyI h a1 a2 a3 a4 a5 a6 a7 a8 a9 a10 (mw, mh, ms, mp, ml, mb, mm, md, mc, mhi, msw, mmi, mhc, ma, mq, mt)) (wr := ([] : va_W)) (w1 := MDc cyI h a1 a2 a3 a4 a5 a6 a7 a8 a9 a10 (mw, mh, ms, mp, ml, mb, mm, md, mc, mhi, msw, mmi, mhc, ma, mq, 1)) (ws' := MDc cyI h a1 a2 a3 a4 a5 a6 a7 a8 a9 a10 (mw, mh, ms, mp, ml, mb, mm, md, mc, mhi, msw, mmi, mhc, ma, mq, 1)) (isC := [0, 1, 2, 3, 4, 5, 6, 7, 8, 9, 10]) (isR := []) (ps := [0, 1, 2, 3, 4, 5, 6, 7, 8, 9, 10]) (As := [.int x]) (rest := []) (m_isLineN l D cyI cyZ cyJ h a1 a2 a3 a4 a5 a6 a7 a8 a9 a10 mw mh ms mp ml mb mm md mc mhi msw mmi mhc ma mq mt x hbad) ⟨hx, hb, hown, hts⟩ gX3_placeOf_X3_isLine rfl ⟨rfl, by decide, by decide, by decide +kernel⟩ ⟨Nat.le_of_ble_eq_true rfl, Nat.le_of_ble_eq_true rfl⟩ ⟨rfl, rfl⟩ hml hl.1 hK hP hD hS hA ⟨rfl, rfl, rfl, rfl, rfl, rfl, rfl⟩ rfl ⟨rfl, rfl⟩ rfl rfl (Nat.le_of_ble_eq_true rfl) ⟨Nat.zero_le _, Nat.zero_le _⟩ dX3_placeOf_2 (fun H locs hP hD hS => ?_)
  refine mq_bnz (b := false) (tgt := 12) hx hb dX3_placeOf_5 (by decide) (fun c1 => ?_) (fun c1 => ?_)
  · exact absurd c1 (by decide)
  · refine lv_iconst (v := nI 0) hx hb dX3_placeOf_8 (by decide) ?_
    refine lv_goto (tgt := 47) hx hb dX3_placeOf_9 (by decide) ?_
    exact CtI.ret hQ hx hb hr hlk hK hP hD hS dX3_placeOf_47 rfl (congrArg (MDc cyI h a1 a2 a3 a4 a5 a6 a7 a8 a9 a10) rfl)
abbrev rmX3_isDirty : Room := { frames := 1, cells := 0, slots := 0, locals := 22 }
set_option maxRecDepth 100000 in
set_option maxHeartbeats 4000000 in
theorem m_isDirty (l : Launch) (D : va_G) (cyI cyZ cyJ : ClassId) (h a1 a2 a3 a4 a5 a6 a7 a8 a9 a10 : Nat) (mw : Nat → Int32) (mh : Nat → Int32) (ms : Nat → Nat) (mp : Nat → Nat) (ml : Nat → Option Nat) (mb : Nat → Nat) (mm : Nat → Nat) (md : Nat → Bool) (mc : Nat → Int32) (mhi : Int32) (msw : Int32) (mmi : Int32) (mhc : Int32) (ma : Nat → Nat) (mq : Nat) (mt : Nat) (q : Nat) (hq : q < 256) : CtI l yX3_isDirty wsX3_isDirty rmX3_isDirty D (T3 cyI cyZ cyJ) [.ref h, .int (nI q)] (MDc cyI h a1 a2 a3 a4 a5 a6 a7 a8 a9 a10 (mw, mh, ms, mp, ml, mb, mm, md, mc, mhi, msw, mmi, mhc, ma, mq, mt)) (bI (md q)) (MDc cyI h a1 a2 a3 a4 a5 a6 a7 a8 a9 a10 (md_thr 0 (mw, mh, ms, mp, ml, mb, mm, md, mc, mhi, msw, mmi, mhc, ma, mq, mt))) := by
  refine CtI.of (cc := cX3_isDirty) (maxL := 2) (ret := (some .boolean)) (lv0 := [(0, .ref h), (1, .int (nI q))]) (by decide) rfl (Nat.le_of_ble_eq_true rfl) rfl ?_
  intro p e s m below meth c A ls args Q hx hb hml hr hlk hts hown hK hP hA hD hS hl hQ
  have hown : s.vm.findClass RX3 = some m.cls := hown
  have hi_RX3 : ∀ w ∈ wsX30, w ∈ wsX3_isDirty := by decide +kernel
  have hf_31 := hts (.fieldLink RX3 31 "OutcastBenchModel" "isDirty" "[I") (by decide +kernel)
  refine lv_aload_n hx hb dX3_isDirty_0 rfl (lv_at hl 0 rfl) ?_
  refine lv_iload_n hx hb dX3_isDirty_1 rfl (lv_at hl 1 rfl) ?_
  refine CtI.callV (n := 1) (q0 := 0) (ci := 3) (wc := MDc cyI h a1 a2 a3 a4 a5 a6 a7 a8 a9 a10 (mw, mh, ms, mp, ml, mb, mm, md, mc, mhi, msw, mmi, mhc, ma, mq, mt)) (wr := ([] : va_W)) (w1 := MDc cyI h a1 a2 a3 a4 a5 a6 a7 a8 a9 a10 (mw, mh, ms, mp, ml, mb, mm, md, mc, mhi, msw, mmi, mhc, ma, mq, 0)) (ws' := MDc cyI h a1 a2 a3 a4 a5 a6 a7 a8 a9 a10 (mw, mh, ms, mp, ml, mb, mm, md, mc, mhi, msw, mmi, mhc, ma, mq, 0)) (isC := [0, 1, 2, 3, 4, 5, 6, 7, 8, 9, 10]) (isR := []) (ps := [0, 1, 2, 3, 4, 5, 6, 7, 8, 9, 10]) (As := [.int (nI q)]) (rest := []) (m_isLine l D cyI cyZ cyJ h a1 a2 a3 a4 a5 a6 a7 a8 a9 a10 mw mh ms mp ml mb mm md mc mhi msw mmi mhc ma mq mt q hq) ⟨hx, hb, hown, hts⟩ gX3_isDirty_X3_isLine rfl ⟨rfl, by decide, by decide, by decide +kernel⟩ ⟨Nat.le_of_ble_eq_true rfl, Nat.le_of_ble_eq_true rfl⟩ ⟨rfl, rfl⟩ hml hl.1 hK hP hD hS hA ⟨rfl, rfl, rfl, rfl, rfl, rfl, rfl⟩ rfl ⟨rfl, rfl⟩ rfl rfl (Nat.le_of_ble_eq_true rfl) ⟨Nat.zero_le _, Nat.zero_le _⟩ dX3_isDirty_2 (fun H locs hP hD hS => ?_)
  refine mq_bz (b := true) (tgt := 22) hx hb dX3_isDirty_5 (by decide) (fun c1 => ?_) (fun c1 => ?_)
  · exact absurd c1 (by decide)
  · refine lv_aload_n hx hb dX3_isDirty_8 rfl (lv_at hl 0 rfl) ?_
    refine va_get (D := D) (ci := 3) (v := .ref a8) (C := RX3) (T := TX3) (N := 16) hx hb hts hi_RX3 hown hK hP 0 rfl rfl 7 (by decide) hf_31 (fun _ h9 => h9) rfl dX3_isDirty_9 ?_
    refine lv_iload_n hx hb dX3_isDirty_12 rfl (lv_at hl 1 rfl) ?_
    refine mq_ld (k := q) bI md hx hb hK hP 8 0 rfl rfl (by omega) (Nat.le_of_ble_eq_true rfl) dX3_isDirty_13 ?_
    refine lv_iconst (v := nI 1) hx hb dX3_isDirty_14 (by decide) ?_
    refine lv_icmp_ne (x := bI (md q)) (y := 1) (tgt := 22) hx hb dX3_isDirty_15 (by decide) (fun c3 => ?_) (fun c3 => ?_)
    · refine lv_iconst (v := nI 0) hx hb dX3_isDirty_22 (by decide) ?_
      exact CtI.zret hQ hx hb hr narrow_b0 hlk hK hP hD hS dX3_isDirty_23 (by cases hh : md q; rfl; exact absurd (by rw [hh]; rfl) c3) (congrArg (MDc cyI h a1 a2 a3 a4 a5 a6 a7 a8 a9 a10) rfl)
    · refine lv_iconst (v := nI 1) hx hb dX3_isDirty_18 (by decide) ?_
      refine lv_goto (tgt := 23) hx hb dX3_isDirty_19 (by decide) ?_
      exact CtI.zret hQ hx hb hr narrow_b1 hlk hK hP hD hS dX3_isDirty_23 (congrArg bI (bI_1 (by first | exact c3 | (by_cases hh : bI (md q) = 1; exact hh; exact absurd hh c3)))).symm (congrArg (MDc cyI h a1 a2 a3 a4 a5 a6 a7 a8 a9 a10) rfl)
set_option maxRecDepth 100000 in
set_option maxHeartbeats 4000000 in
theorem m_isDirtyN (l : Launch) (D : va_G) (cyI cyZ cyJ : ClassId) (h a1 a2 a3 a4 a5 a6 a7 a8 a9 a10 : Nat) (mw : Nat → Int32) (mh : Nat → Int32) (ms : Nat → Nat) (mp : Nat → Nat) (ml : Nat → Option Nat) (mb : Nat → Nat) (mm : Nat → Nat) (md : Nat → Bool) (mc : Nat → Int32) (mhi : Int32) (msw : Int32) (mmi : Int32) (mhc : Int32) (ma : Nat → Nat) (mq : Nat) (mt : Nat) (x : Int32) (hbad : x < 0 ∨ nI 256 ≤ x) : CtI l yX3_isDirty wsX3_isDirty rmX3_isDirty D (T3 cyI cyZ cyJ) [.ref h, .int x] (MDc cyI h a1 a2 a3 a4 a5 a6 a7 a8 a9 a10 (mw, mh, ms, mp, ml, mb, mm, md, mc, mhi, msw, mmi, mhc, ma, mq, mt)) (bI false) (MDc cyI h a1 a2 a3 a4 a5 a6 a7 a8 a9 a10 (md_thr 1 (mw, mh, ms, mp, ml, mb, mm, md, mc, mhi, msw, mmi, mhc, ma, mq, mt))) := by
  refine CtI.of (cc := cX3_isDirty) (maxL := 2) (ret := (some .boolean)) (lv0 := [(0, .ref h), (1, .int x)]) (by decide) rfl (Nat.le_of_ble_eq_true rfl) rfl ?_
  intro p e s m below meth c A ls args Q hx hb hml hr hlk hts hown hK hP hA hD hS hl hQ
  have hown : s.vm.findClass RX3 = some m.cls := hown
  refine lv_aload_n hx hb dX3_isDirty_0 rfl (lv_at hl 0 rfl) ?_
  refine lv_iload_n hx hb dX3_isDirty_1 rfl (lv_at hl 1 rfl) ?_
  refine CtI.callV (n := 1) (q0 := 0) (ci := 3) (wc := MDc cyI h a1 a2 a3 a4 a5 a6 a7 a8 a9 a10 (mw, mh, ms, mp, ml, mb, mm, md, mc, mhi, msw, mmi, mhc, ma, mq, mt)) (wr := ([] : va_W)) (w1 := MDc cyI h a1 a2 a3 a4 a5 a6 a7 a8 a9 a10 (mw, mh, ms, mp, ml, mb, mm, md, mc, mhi, msw, mmi, mhc, ma, mq, 1)) (ws' := MDc cyI h a1 a2 a3 a4 a5 a6 a7 a8 a9 a10 (mw, mh, ms, mp, ml, mb, mm, md, mc, mhi, msw, mmi, mhc, ma, mq, 1)) (isC := [0, 1, 2, 3, 4, 5, 6, 7, 8, 9, 10]) (isR := []) (ps := [0, 1, 2, 3, 4, 5, 6, 7, 8, 9, 10]) (As := [.int x]) (rest := []) (m_isLineN l D cyI cyZ cyJ h a1 a2 a3 a4 a5 a6 a7 a8 a9 a10 mw mh ms mp ml mb mm md mc mhi msw mmi mhc ma mq mt x hbad) ⟨hx, hb, hown, hts⟩ gX3_isDirty_X3_isLine rfl ⟨rfl, by decide, by decide, by decide +kernel⟩ ⟨Nat.le_of_ble_eq_true rfl, Nat.le_of_ble_eq_true rfl⟩ ⟨rfl, rfl⟩ hml hl.1 hK hP hD hS hA ⟨rfl, rfl, rfl, rfl, rfl, rfl, rfl⟩ rfl ⟨rfl, rfl⟩ rfl rfl (Nat.le_of_ble_eq_true rfl) ⟨Nat.zero_le _, Nat.zero_le _⟩ dX3_isDirty_2 (fun H locs hP hD hS => ?_)
  refine mq_bz (b := false) (tgt := 22) hx hb dX3_isDirty_5 (by decide) (fun c1 => ?_) (fun c1 => ?_)
  · refine lv_iconst (v := nI 0) hx hb dX3_isDirty_22 (by decide) ?_
    exact CtI.zret hQ hx hb hr narrow_b0 hlk hK hP hD hS dX3_isDirty_23 rfl (congrArg (MDc cyI h a1 a2 a3 a4 a5 a6 a7 a8 a9 a10) rfl)
  · exact absurd c1 (by decide)
abbrev rmX3_dirty : Room := { frames := 0, cells := 0, slots := 0, locals := 0 }
set_option maxRecDepth 100000 in
set_option maxHeartbeats 4000000 in
theorem m_dirty (l : Launch) (D : va_G) (cyI cyZ cyJ : ClassId) (h a1 a2 a3 a4 a5 a6 a7 a8 a9 a10 : Nat) (mw : Nat → Int32) (mh : Nat → Int32) (ms : Nat → Nat) (mp : Nat → Nat) (ml : Nat → Option Nat) (mb : Nat → Nat) (mm : Nat → Nat) (md : Nat → Bool) (mc : Nat → Int32) (mhi : Int32) (msw : Int32) (mmi : Int32) (mhc : Int32) (ma : Nat → Nat) (mq : Nat) (mt : Nat)  : CtI l yX3_dirty wsX3_dirty rmX3_dirty D (T3 cyI cyZ cyJ) [.ref h] (MDc cyI h a1 a2 a3 a4 a5 a6 a7 a8 a9 a10 (mw, mh, ms, mp, ml, mb, mm, md, mc, mhi, msw, mmi, mhc, ma, mq, mt)) (nI (cnt md 256)) (MDc cyI h a1 a2 a3 a4 a5 a6 a7 a8 a9 a10 (md_thr 0 (mw, mh, ms, mp, ml, mb, mm, md, mc, mhi, msw, mmi, mhc, ma, mq, mt))) := by
  refine CtI.of (cc := cX3_dirty) (maxL := 3) (ret := (some .int)) (lv0 := [(0, .ref h)]) (by decide) rfl (Nat.le_of_ble_eq_true rfl) rfl ?_
  intro p e s m below meth c A ls args Q hx hb hml hr hlk hts hown hK hP hA hD hS hl hQ
  have hown : s.vm.findClass RX3 = some m.cls := hown
  have hi_RX3 : ∀ w ∈ wsX30, w ∈ wsX3_dirty := by decide +kernel
  have hf_31 := hts (.fieldLink RX3 31 "OutcastBenchModel" "isDirty" "[I") (by decide +kernel)
  have hf_44 := hts (.fieldLink RX3 44 "OutcastBenchModel" "thrown" "I") (by decide +kernel)
  refine lv_aload_n hx hb dX3_dirty_0 rfl (lv_at hl 0 rfl) ?_
  refine lv_iconst (v := nI 0) hx hb dX3_dirty_1 (by decide) ?_
  refine mq_put (D := D) (ci := 3) (v := .int (nI 0)) (ty := .int) (C := RX3) (T := TX3) (N := 16) (ws' := MDc cyI h a1 a2 a3 a4 a5 a6 a7 a8 a9 a10 (mw, mh, ms, mp, ml, mb, mm, md, mc, mhi, msw, mmi, mhc, ma, mq, 0)) hx hb hts hi_RX3 tyX3 tyX3_ok nmX3 hown hK hP hD hS 0 rfl rfl 15 (by decide) hf_44 (fun _ h9 => h9) rfl (by decide +kernel) rfl rfl (Nat.le_of_ble_eq_true rfl) dX3_dirty_2 rfl (fun H locs hP hD hS => ?_)
  refine lv_iconst (v := nI 0) hx hb dX3_dirty_5 (by decide) ?_
  refine lv_istore_n (lv' := [(1, .int (nI 0)), (0, .ref h)]) hx hb dX3_dirty_6 rfl hl (by decide) rfl (fun ls hl => ?_)
  refine lv_iconst (v := nI 0) hx hb dX3_dirty_7 (by decide) ?_
  refine lv_istore_n (lv' := [(2, .int (nI 0)), (1, .int (nI 0)), (0, .ref h)]) hx hb dX3_dirty_8 rfl hl (by decide) rfl (fun ls hl => ?_)
  have LP9 : ∀ (fu : Nat) (i : Nat) (k : Nat) (H : Heap) (locs : List Loc) (ls : Array Slot), (i ≤ 256) → (k = cnt md i) → 256 - i < fu → va_P D vwCl (MDc cyI h a1 a2 a3 a4 a5 a6 a7 a8 a9 a10 (mw, mh, ms, mp, ml, mb, mm, md, mc, mhi, msw, mmi, mhc, ma, mq, 0)) H → va_D A (MDc cyI h a1 a2 a3 a4 a5 a6 a7 a8 a9 a10 (mw, mh, ms, mp, ml, mb, mm, md, mc, mhi, msw, mmi, mhc, ma, mq, 0)) → va_S A s.heap H locs → lv_has ls 3 [(0, .ref h), (1, .int (nI k)), (2, .int (nI i))] → W p l e rmX3_dirty s m args below meth c H locs 0 0 Q (F0 m 9 ls []) := by
    intro fu
    induction fu with
    | zero =>
      intro i k H locs ls h2 hk0 hfu
      exact absurd hfu (Nat.not_lt_zero _)
    | succ fu ih =>
      intro i k H locs ls h2 hk0 hfu hP hD hS hl
      refine lv_iload_n hx hb dX3_dirty_9 rfl (lv_at hl 2 rfl) ?_
      refine lv_sipush (v := nI 256) hx hb dX3_dirty_10 (by decide) ?_
      refine mq_ge (x := i) (y := 256) (tgt := 31) (by omega) (by omega) hx hb dX3_dirty_13 (by decide) (fun c1 => ?_) (fun c1 => ?_)
      · have e : i = 256 := by omega
        subst e
        refine lv_iload_n hx hb dX3_dirty_31 rfl (lv_at hl 1 rfl) ?_
        exact CtI.ret hQ hx hb hr hlk hK hP hD hS dX3_dirty_32 (by rw [hk0]) (congrArg (MDc cyI h a1 a2 a3 a4 a5 a6 a7 a8 a9 a10) rfl)
      · refine lv_iload_n hx hb dX3_dirty_16 rfl (lv_at hl 1 rfl) ?_
        refine lv_aload_n hx hb dX3_dirty_17 rfl (lv_at hl 0 rfl) ?_
        refine va_get (D := D) (ci := 3) (v := .ref a8) (C := RX3) (T := TX3) (N := 16) hx hb hts hi_RX3 hown hK hP 0 rfl rfl 7 (by decide) hf_31 (fun _ h9 => h9) rfl dX3_dirty_18 ?_
        refine lv_iload_n hx hb dX3_dirty_21 rfl (lv_at hl 2 rfl) ?_
        refine mq_ld (k := i) bI md hx hb hK hP 8 0 rfl rfl (by omega) (Nat.le_of_ble_eq_true rfl) dX3_dirty_22 ?_
        refine lv_iadd (x := nI k) (y := bI (md i)) hx hb dX3_dirty_23 ?_
        rw [show (nI k + (bI (md i))) = nI (k + (if md i = true then 1 else 0)) from (nI_bI k (md i))]
        refine lv_istore_n (lv' := [(1, .int (nI (k + (if md i = true then 1 else 0)))), (0, .ref h), (2, .int (nI i))]) hx hb dX3_dirty_24 rfl hl (by decide) rfl (fun ls hl => ?_)
        refine lv_iinc (v := nI (i + 1)) (lv' := [(2, .int (nI (i + 1))), (1, .int (nI (k + (if md i = true then 1 else 0)))), (0, .ref h)]) hx hb dX3_dirty_25 hl (k := 2) rfl (inc1 _) (by decide) rfl (fun ls hl => ?_)
        refine lv_goto (tgt := 9) hx hb dX3_dirty_28 (by decide) ?_
        exact ih (i + 1) (k + (if md i = true then 1 else 0)) _ _ _ (by omega) (by rw [hk0]; rfl) (by omega) hP hD hS (lv_sub hl [2, 1, 0] rfl)
  exact LP9 _ 0 0 _ _ _ (Nat.zero_le _) rfl (Nat.lt_succ_self _) hP hD hS (lv_sub hl [2, 1, 0] rfl)
abbrev rmX3_atHome : Room := { frames := 1, cells := 0, slots := 0, locals := 20 }
set_option maxRecDepth 100000 in
set_option maxHeartbeats 4000000 in
theorem m_atHome (l : Launch) (D : va_G) (cyI cyZ cyJ : ClassId) (h a1 a2 a3 a4 a5 a6 a7 a8 a9 a10 : Nat) (mw : Nat → Int32) (mh : Nat → Int32) (ms : Nat → Nat) (mp : Nat → Nat) (ml : Nat → Option Nat) (mb : Nat → Nat) (mm : Nat → Nat) (md : Nat → Bool) (mc : Nat → Int32) (mhi : Int32) (msw : Int32) (mmi : Int32) (mhc : Int32) (ma : Nat → Nat) (mq : Nat) (mt : Nat) (a : Nat) (ha : a < 1024) : CtI l yX3_atHome wsX3_atHome rmX3_atHome D (T3 cyI cyZ cyJ) [.ref h, .int (nI a)] (MDc cyI h a1 a2 a3 a4 a5 a6 a7 a8 a9 a10 (mw, mh, ms, mp, ml, mb, mm, md, mc, mhi, msw, mmi, mhc, ma, mq, mt)) (mh a) (MDc cyI h a1 a2 a3 a4 a5 a6 a7 a8 a9 a10 (md_thr 0 (mw, mh, ms, mp, ml, mb, mm, md, mc, mhi, msw, mmi, mhc, ma, mq, mt))) := by
  refine CtI.of (cc := cX3_atHome) (maxL := 2) (ret := (some .int)) (lv0 := [(0, .ref h), (1, .int (nI a))]) (by decide) rfl (Nat.le_of_ble_eq_true rfl) rfl ?_
  intro p e s m below meth c A ls args Q hx hb hml hr hlk hts hown hK hP hA hD hS hl hQ
  have hown : s.vm.findClass RX3 = some m.cls := hown
  have hi_RX3 : ∀ w ∈ wsX30, w ∈ wsX3_atHome := by decide +kernel
  have hf_13 := hts (.fieldLink RX3 13 "OutcastBenchModel" "home" "[I") (by decide +kernel)
  have hf_44 := hts (.fieldLink RX3 44 "OutcastBenchModel" "thrown" "I") (by decide +kernel)
  refine lv_aload_n hx hb dX3_atHome_0 rfl (lv_at hl 0 rfl) ?_
  refine lv_iload_n hx hb dX3_atHome_1 rfl (lv_at hl 1 rfl) ?_
  refine CtI.callS (n := 1) (wc := ([] : va_W)) (wr := MDc cyI h a1 a2 a3 a4 a5 a6 a7 a8 a9 a10 (mw, mh, ms, mp, ml, mb, mm, md, mc, mhi, msw, mmi, mhc, ma, mq, mt)) (w1 := ([] : va_W)) (ws' := MDc cyI h a1 a2 a3 a4 a5 a6 a7 a8 a9 a10 (mw, mh, ms, mp, ml, mb, mm, md, mc, mhi, msw, mmi, mhc, ma, mq, mt)) (isC := []) (isR := [0, 1, 2, 3, 4, 5, 6, 7, 8, 9, 10]) (ps := [0, 1, 2, 3, 4, 5, 6, 7, 8, 9, 10]) (As := [.int (nI a)]) (rest := [.ref h]) (m_isWord l D cyI cyZ cyJ a ha) ⟨hx, hb, hown, hts⟩ gX3_atHome_X3_isWord rfl ⟨by decide, by decide, by decide +kernel⟩ ⟨Nat.le_of_ble_eq_true rfl, Nat.le_of_ble_eq_true rfl⟩ ⟨rfl, rfl⟩ hml hl.1 hK hP hD hS hA ⟨rfl, rfl, rfl, rfl, rfl, rfl, rfl⟩ rfl rfl (Nat.le_of_ble_eq_true rfl) ⟨Nat.zero_le _, Nat.zero_le _⟩ dX3_atHome_2 (fun H locs hP hD hS => ?_)
  refine mq_bz (b := true) (tgt := 12) hx hb dX3_atHome_5 (by decide) (fun c1 => ?_) (fun c1 => ?_)
  · exact absurd c1 (by decide)
  · refine lv_iconst (v := nI 0) hx hb dX3_atHome_8 (by decide) ?_
    refine lv_goto (tgt := 13) hx hb dX3_atHome_9 (by decide) ?_
    refine mq_put (D := D) (ci := 3) (v := .int (nI 0)) (ty := .int) (C := RX3) (T := TX3) (N := 16) (ws' := MDc cyI h a1 a2 a3 a4 a5 a6 a7 a8 a9 a10 (mw, mh, ms, mp, ml, mb, mm, md, mc, mhi, msw, mmi, mhc, ma, mq, 0)) hx hb hts hi_RX3 tyX3 tyX3_ok nmX3 hown hK hP hD hS 0 rfl rfl 15 (by decide) hf_44 (fun _ h9 => h9) rfl (by decide +kernel) rfl rfl (Nat.le_of_ble_eq_true rfl) dX3_atHome_13 rfl (fun H locs hP hD hS => ?_)
    refine lv_aload_n hx hb dX3_atHome_16 rfl (lv_at hl 0 rfl) ?_
    refine va_get (D := D) (ci := 3) (v := .int (nI 0)) (C := RX3) (T := TX3) (N := 16) hx hb hts hi_RX3 hown hK hP 0 rfl rfl 15 (by decide) hf_44 (fun _ h9 => h9) rfl dX3_atHome_17 ?_
    refine mq_nz (x := 0) (tgt := 32) (by omega) hx hb dX3_atHome_20 (by decide) (fun c2 => ?_) (fun c2 => ?_)
    · exact absurd c2 (by decide)
    · refine lv_aload_n hx hb dX3_atHome_23 rfl (lv_at hl 0 rfl) ?_
      refine va_get (D := D) (ci := 3) (v := .ref a2) (C := RX3) (T := TX3) (N := 16) hx hb hts hi_RX3 hown hK hP 0 rfl rfl 1 (by decide) hf_13 (fun _ h9 => h9) rfl dX3_atHome_24 ?_
      refine lv_iload_n hx hb dX3_atHome_27 rfl (lv_at hl 1 rfl) ?_
      refine mq_ldR (k := a) mh hx hb hK hP 2 0 rfl rfl (by omega) (Nat.le_of_ble_eq_true rfl) dX3_atHome_28 ?_
      refine lv_goto (tgt := 33) hx hb dX3_atHome_29 (by decide) ?_
      exact CtI.ret hQ hx hb hr hlk hK hP hD hS dX3_atHome_33 rfl (congrArg (MDc cyI h a1 a2 a3 a4 a5 a6 a7 a8 a9 a10) rfl)
set_option maxRecDepth 100000 in
set_option maxHeartbeats 4000000 in
theorem m_atHomeN (l : Launch) (D : va_G) (cyI cyZ cyJ : ClassId) (h a1 a2 a3 a4 a5 a6 a7 a8 a9 a10 : Nat) (mw : Nat → Int32) (mh : Nat → Int32) (ms : Nat → Nat) (mp : Nat → Nat) (ml : Nat → Option Nat) (mb : Nat → Nat) (mm : Nat → Nat) (md : Nat → Bool) (mc : Nat → Int32) (mhi : Int32) (msw : Int32) (mmi : Int32) (mhc : Int32) (ma : Nat → Nat) (mq : Nat) (mt : Nat) (x : Int32) (hbad : x < 0 ∨ nI 1024 ≤ x) : CtI l yX3_atHome wsX3_atHome rmX3_atHome D (T3 cyI cyZ cyJ) [.ref h, .int x] (MDc cyI h a1 a2 a3 a4 a5 a6 a7 a8 a9 a10 (mw, mh, ms, mp, ml, mb, mm, md, mc, mhi, msw, mmi, mhc, ma, mq, mt)) (nI 0) (MDc cyI h a1 a2 a3 a4 a5 a6 a7 a8 a9 a10 (md_thr 1 (mw, mh, ms, mp, ml, mb, mm, md, mc, mhi, msw, mmi, mhc, ma, mq, mt))) := by
  refine CtI.of (cc := cX3_atHome) (maxL := 2) (ret := (some .int)) (lv0 := [(0, .ref h), (1, .int x)]) (by decide) rfl (Nat.le_of_ble_eq_true rfl) rfl ?_
  intro p e s m below meth c A ls args Q hx hb hml hr hlk hts hown hK hP hA hD hS hl hQ
  have hown : s.vm.findClass RX3 = some m.cls := hown
  have hi_RX3 : ∀ w ∈ wsX30, w ∈ wsX3_atHome := by decide +kernel
  have hf_44 := hts (.fieldLink RX3 44 "OutcastBenchModel" "thrown" "I") (by decide +kernel)
  refine lv_aload_n hx hb dX3_atHome_0 rfl (lv_at hl 0 rfl) ?_
  refine lv_iload_n hx hb dX3_atHome_1 rfl (lv_at hl 1 rfl) ?_
  refine CtI.callS (n := 1) (wc := ([] : va_W)) (wr := MDc cyI h a1 a2 a3 a4 a5 a6 a7 a8 a9 a10 (mw, mh, ms, mp, ml, mb, mm, md, mc, mhi, msw, mmi, mhc, ma, mq, mt)) (w1 := ([] : va_W)) (ws' := MDc cyI h a1 a2 a3 a4 a5 a6 a7 a8 a9 a10 (mw, mh, ms, mp, ml, mb, mm, md, mc, mhi, msw, mmi, mhc, ma, mq, mt)) (isC := []) (isR := [0, 1, 2, 3, 4, 5, 6, 7, 8, 9, 10]) (ps := [0, 1, 2, 3, 4, 5, 6, 7, 8, 9, 10]) (As := [.int x]) (rest := [.ref h]) (m_isWordN l D cyI cyZ cyJ x hbad) ⟨hx, hb, hown, hts⟩ gX3_atHome_X3_isWord rfl ⟨by decide, by decide, by decide +kernel⟩ ⟨Nat.le_of_ble_eq_true rfl, Nat.le_of_ble_eq_true rfl⟩ ⟨rfl, rfl⟩ hml hl.1 hK hP hD hS hA ⟨rfl, rfl, rfl, rfl, rfl, rfl, rfl⟩ rfl rfl (Nat.le_of_ble_eq_true rfl) ⟨Nat.zero_le _, Nat.zero_le _⟩ dX3_atHome_2 (fun H locs hP hD hS => ?_)
  refine mq_bz (b := false) (tgt := 12) hx hb dX3_atHome_5 (by decide) (fun c1 => ?_) (fun c1 => ?_)
  · refine lv_iconst (v := nI 1) hx hb dX3_atHome_12 (by decide) ?_
    refine mq_put (D := D) (ci := 3) (v := .int (nI 1)) (ty := .int) (C := RX3) (T := TX3) (N := 16) (ws' := MDc cyI h a1 a2 a3 a4 a5 a6 a7 a8 a9 a10 (mw, mh, ms, mp, ml, mb, mm, md, mc, mhi, msw, mmi, mhc, ma, mq, 1)) hx hb hts hi_RX3 tyX3 tyX3_ok nmX3 hown hK hP hD hS 0 rfl rfl 15 (by decide) hf_44 (fun _ h9 => h9) rfl (by decide +kernel) rfl rfl (Nat.le_of_ble_eq_true rfl) dX3_atHome_13 rfl (fun H locs hP hD hS => ?_)
    refine lv_aload_n hx hb dX3_atHome_16 rfl (lv_at hl 0 rfl) ?_
    refine va_get (D := D) (ci := 3) (v := .int (nI 1)) (C := RX3) (T := TX3) (N := 16) hx hb hts hi_RX3 hown hK hP 0 rfl rfl 15 (by decide) hf_44 (fun _ h9 => h9) rfl dX3_atHome_17 ?_
    refine mq_nz (x := 1) (tgt := 32) (by omega) hx hb dX3_atHome_20 (by decide) (fun c2 => ?_) (fun c2 => ?_)
    · refine lv_iconst (v := nI 0) hx hb dX3_atHome_32 (by decide) ?_
      exact CtI.ret hQ hx hb hr hlk hK hP hD hS dX3_atHome_33 rfl (congrArg (MDc cyI h a1 a2 a3 a4 a5 a6 a7 a8 a9 a10) rfl)
    · exact absurd c2 (by decide)
  · exact absurd c1 (by decide)
abbrev rmX3_peek : Room := { frames := 1, cells := 0, slots := 0, locals := 20 }
set_option maxRecDepth 100000 in
set_option maxHeartbeats 4000000 in
theorem m_peek (l : Launch) (D : va_G) (cyI cyZ cyJ : ClassId) (h a1 a2 a3 a4 a5 a6 a7 a8 a9 a10 : Nat) (mw : Nat → Int32) (mh : Nat → Int32) (ms : Nat → Nat) (mp : Nat → Nat) (ml : Nat → Option Nat) (mb : Nat → Nat) (mm : Nat → Nat) (md : Nat → Bool) (mc : Nat → Int32) (mhi : Int32) (msw : Int32) (mmi : Int32) (mhc : Int32) (ma : Nat → Nat) (mq : Nat) (mt : Nat) (a : Nat) (ha : a < 1024) : CtI l yX3_peek wsX3_peek rmX3_peek D (T3 cyI cyZ cyJ) [.ref h, .int (nI a)] (MDc cyI h a1 a2 a3 a4 a5 a6 a7 a8 a9 a10 (mw, mh, ms, mp, ml, mb, mm, md, mc, mhi, msw, mmi, mhc, ma, mq, mt)) (mw a) (MDc cyI h a1 a2 a3 a4 a5 a6 a7 a8 a9 a10 (md_thr 0 (mw, mh, ms, mp, ml, mb, mm, md, mc, mhi, msw, mmi, mhc, ma, mq, mt))) := by
  refine CtI.of (cc := cX3_peek) (maxL := 2) (ret := (some .int)) (lv0 := [(0, .ref h), (1, .int (nI a))]) (by decide) rfl (Nat.le_of_ble_eq_true rfl) rfl ?_
  intro p e s m below meth c A ls args Q hx hb hml hr hlk hts hown hK hP hA hD hS hl hQ
  have hown : s.vm.findClass RX3 = some m.cls := hown
  have hi_RX3 : ∀ w ∈ wsX30, w ∈ wsX3_peek := by decide +kernel
  have hf_7 := hts (.fieldLink RX3 7 "OutcastBenchModel" "written" "[I") (by decide +kernel)
  have hf_44 := hts (.fieldLink RX3 44 "OutcastBenchModel" "thrown" "I") (by decide +kernel)
  refine lv_aload_n hx hb dX3_peek_0 rfl (lv_at hl 0 rfl) ?_
  refine lv_iload_n hx hb dX3_peek_1 rfl (lv_at hl 1 rfl) ?_
  refine CtI.callS (n := 1) (wc := ([] : va_W)) (wr := MDc cyI h a1 a2 a3 a4 a5 a6 a7 a8 a9 a10 (mw, mh, ms, mp, ml, mb, mm, md, mc, mhi, msw, mmi, mhc, ma, mq, mt)) (w1 := ([] : va_W)) (ws' := MDc cyI h a1 a2 a3 a4 a5 a6 a7 a8 a9 a10 (mw, mh, ms, mp, ml, mb, mm, md, mc, mhi, msw, mmi, mhc, ma, mq, mt)) (isC := []) (isR := [0, 1, 2, 3, 4, 5, 6, 7, 8, 9, 10]) (ps := [0, 1, 2, 3, 4, 5, 6, 7, 8, 9, 10]) (As := [.int (nI a)]) (rest := [.ref h]) (m_isWord l D cyI cyZ cyJ a ha) ⟨hx, hb, hown, hts⟩ gX3_peek_X3_isWord rfl ⟨by decide, by decide, by decide +kernel⟩ ⟨Nat.le_of_ble_eq_true rfl, Nat.le_of_ble_eq_true rfl⟩ ⟨rfl, rfl⟩ hml hl.1 hK hP hD hS hA ⟨rfl, rfl, rfl, rfl, rfl, rfl, rfl⟩ rfl rfl (Nat.le_of_ble_eq_true rfl) ⟨Nat.zero_le _, Nat.zero_le _⟩ dX3_peek_2 (fun H locs hP hD hS => ?_)
  refine mq_bz (b := true) (tgt := 12) hx hb dX3_peek_5 (by decide) (fun c1 => ?_) (fun c1 => ?_)
  · exact absurd c1 (by decide)
  · refine lv_iconst (v := nI 0) hx hb dX3_peek_8 (by decide) ?_
    refine lv_goto (tgt := 13) hx hb dX3_peek_9 (by decide) ?_
    refine mq_put (D := D) (ci := 3) (v := .int (nI 0)) (ty := .int) (C := RX3) (T := TX3) (N := 16) (ws' := MDc cyI h a1 a2 a3 a4 a5 a6 a7 a8 a9 a10 (mw, mh, ms, mp, ml, mb, mm, md, mc, mhi, msw, mmi, mhc, ma, mq, 0)) hx hb hts hi_RX3 tyX3 tyX3_ok nmX3 hown hK hP hD hS 0 rfl rfl 15 (by decide) hf_44 (fun _ h9 => h9) rfl (by decide +kernel) rfl rfl (Nat.le_of_ble_eq_true rfl) dX3_peek_13 rfl (fun H locs hP hD hS => ?_)
    refine lv_aload_n hx hb dX3_peek_16 rfl (lv_at hl 0 rfl) ?_
    refine va_get (D := D) (ci := 3) (v := .int (nI 0)) (C := RX3) (T := TX3) (N := 16) hx hb hts hi_RX3 hown hK hP 0 rfl rfl 15 (by decide) hf_44 (fun _ h9 => h9) rfl dX3_peek_17 ?_
    refine mq_nz (x := 0) (tgt := 32) (by omega) hx hb dX3_peek_20 (by decide) (fun c2 => ?_) (fun c2 => ?_)
    · exact absurd c2 (by decide)
    · refine lv_aload_n hx hb dX3_peek_23 rfl (lv_at hl 0 rfl) ?_
      refine va_get (D := D) (ci := 3) (v := .ref a1) (C := RX3) (T := TX3) (N := 16) hx hb hts hi_RX3 hown hK hP 0 rfl rfl 0 (by decide) hf_7 (fun _ h9 => h9) rfl dX3_peek_24 ?_
      refine lv_iload_n hx hb dX3_peek_27 rfl (lv_at hl 1 rfl) ?_
      refine mq_ldR (k := a) mw hx hb hK hP 1 0 rfl rfl (by omega) (Nat.le_of_ble_eq_true rfl) dX3_peek_28 ?_
      refine lv_goto (tgt := 33) hx hb dX3_peek_29 (by decide) ?_
      exact CtI.ret hQ hx hb hr hlk hK hP hD hS dX3_peek_33 rfl (congrArg (MDc cyI h a1 a2 a3 a4 a5 a6 a7 a8 a9 a10) rfl)
set_option maxRecDepth 100000 in
set_option maxHeartbeats 4000000 in
theorem m_peekN (l : Launch) (D : va_G) (cyI cyZ cyJ : ClassId) (h a1 a2 a3 a4 a5 a6 a7 a8 a9 a10 : Nat) (mw : Nat → Int32) (mh : Nat → Int32) (ms : Nat → Nat) (mp : Nat → Nat) (ml : Nat → Option Nat) (mb : Nat → Nat) (mm : Nat → Nat) (md : Nat → Bool) (mc : Nat → Int32) (mhi : Int32) (msw : Int32) (mmi : Int32) (mhc : Int32) (ma : Nat → Nat) (mq : Nat) (mt : Nat) (x : Int32) (hbad : x < 0 ∨ nI 1024 ≤ x) : CtI l yX3_peek wsX3_peek rmX3_peek D (T3 cyI cyZ cyJ) [.ref h, .int x] (MDc cyI h a1 a2 a3 a4 a5 a6 a7 a8 a9 a10 (mw, mh, ms, mp, ml, mb, mm, md, mc, mhi, msw, mmi, mhc, ma, mq, mt)) (nI 0) (MDc cyI h a1 a2 a3 a4 a5 a6 a7 a8 a9 a10 (md_thr 1 (mw, mh, ms, mp, ml, mb, mm, md, mc, mhi, msw, mmi, mhc, ma, mq, mt))) := by
  refine CtI.of (cc := cX3_peek) (maxL := 2) (ret := (some .int)) (lv0 := [(0, .ref h), (1, .int x)]) (by decide) rfl (Nat.le_of_ble_eq_true rfl) rfl ?_
  intro p e s m below meth c A ls args Q hx hb hml hr hlk hts hown hK hP hA hD hS hl hQ
  have hown : s.vm.findClass RX3 = some m.cls := hown
  have hi_RX3 : ∀ w ∈ wsX30, w ∈ wsX3_peek := by decide +kernel
  have hf_44 := hts (.fieldLink RX3 44 "OutcastBenchModel" "thrown" "I") (by decide +kernel)
  refine lv_aload_n hx hb dX3_peek_0 rfl (lv_at hl 0 rfl) ?_
  refine lv_iload_n hx hb dX3_peek_1 rfl (lv_at hl 1 rfl) ?_
  refine CtI.callS (n := 1) (wc := ([] : va_W)) (wr := MDc cyI h a1 a2 a3 a4 a5 a6 a7 a8 a9 a10 (mw, mh, ms, mp, ml, mb, mm, md, mc, mhi, msw, mmi, mhc, ma, mq, mt)) (w1 := ([] : va_W)) (ws' := MDc cyI h a1 a2 a3 a4 a5 a6 a7 a8 a9 a10 (mw, mh, ms, mp, ml, mb, mm, md, mc, mhi, msw, mmi, mhc, ma, mq, mt)) (isC := []) (isR := [0, 1, 2, 3, 4, 5, 6, 7, 8, 9, 10]) (ps := [0, 1, 2, 3, 4, 5, 6, 7, 8, 9, 10]) (As := [.int x]) (rest := [.ref h]) (m_isWordN l D cyI cyZ cyJ x hbad) ⟨hx, hb, hown, hts⟩ gX3_peek_X3_isWord rfl ⟨by decide, by decide, by decide +kernel⟩ ⟨Nat.le_of_ble_eq_true rfl, Nat.le_of_ble_eq_true rfl⟩ ⟨rfl, rfl⟩ hml hl.1 hK hP hD hS hA ⟨rfl, rfl, rfl, rfl, rfl, rfl, rfl⟩ rfl rfl (Nat.le_of_ble_eq_true rfl) ⟨Nat.zero_le _, Nat.zero_le _⟩ dX3_peek_2 (fun H locs hP hD hS => ?_)
  refine mq_bz (b := false) (tgt := 12) hx hb dX3_peek_5 (by decide) (fun c1 => ?_) (fun c1 => ?_)
  · refine lv_iconst (v := nI 1) hx hb dX3_peek_12 (by decide) ?_
    refine mq_put (D := D) (ci := 3) (v := .int (nI 1)) (ty := .int) (C := RX3) (T := TX3) (N := 16) (ws' := MDc cyI h a1 a2 a3 a4 a5 a6 a7 a8 a9 a10 (mw, mh, ms, mp, ml, mb, mm, md, mc, mhi, msw, mmi, mhc, ma, mq, 1)) hx hb hts hi_RX3 tyX3 tyX3_ok nmX3 hown hK hP hD hS 0 rfl rfl 15 (by decide) hf_44 (fun _ h9 => h9) rfl (by decide +kernel) rfl rfl (Nat.le_of_ble_eq_true rfl) dX3_peek_13 rfl (fun H locs hP hD hS => ?_)
    refine lv_aload_n hx hb dX3_peek_16 rfl (lv_at hl 0 rfl) ?_
    refine va_get (D := D) (ci := 3) (v := .int (nI 1)) (C := RX3) (T := TX3) (N := 16) hx hb hts hi_RX3 hown hK hP 0 rfl rfl 15 (by decide) hf_44 (fun _ h9 => h9) rfl dX3_peek_17 ?_
    refine mq_nz (x := 1) (tgt := 32) (by omega) hx hb dX3_peek_20 (by decide) (fun c2 => ?_) (fun c2 => ?_)
    · refine lv_iconst (v := nI 0) hx hb dX3_peek_32 (by decide) ?_
      exact CtI.ret hQ hx hb hr hlk hK hP hD hS dX3_peek_33 rfl (congrArg (MDc cyI h a1 a2 a3 a4 a5 a6 a7 a8 a9 a10) rfl)
    · exact absurd c2 (by decide)
  · exact absurd c1 (by decide)

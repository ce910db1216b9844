theorem c_accU (l : Launch) (D : va_G) (cyI cyZ cyJ : ClassId) (h a1 a2 a3 : Nat) (u : CBu) (q : Nat) (w : Bool) (hbd : cb_bd u) (hq : q < 256) : CtV l yX0_access wsX0_access rmX0_access D (T3 cyI cyZ cyJ) [.ref h, .int (nI q), .int (bI w)] (CBc cyI cyZ h a1 a2 a3 u) (CBc cyI cyZ h a1 a2 a3 (cb_acc q w u)) := by
  obtain ⟨sc, pl, ln, bn, n, dt, hi, sw, mi, hc, co⟩ := u
  exact c_acc l D cyI cyZ cyJ h a1 a2 a3 sc pl ln bn n dt hi sw mi hc co q w hbd hq
theorem c_throwU (l : Launch) (D : va_G) (cyI cyZ cyJ : ClassId) (h a1 a2 a3 : Nat) (u : CBu) (si : Nat) (hsi : si < 16) (hbd : cb_bd u) : CtV l yX0_throwOut wsX0_throwOut rmX0_throwOut D (T3 cyI cyZ cyJ) [.ref h, .int (nI si)] (CBc cyI cyZ h a1 a2 a3 u) (CBc cyI cyZ h a1 a2 a3 (cb_throw si u)) := by
  obtain ⟨sc, pl, ln, bn, n, dt, hi, sw, mi, hc, co⟩ := u
  exact c_throw l D cyI cyZ cyJ h a1 a2 a3 sc pl ln bn n dt hi sw mi hc co si hsi hbd
theorem c_bringU (l : Launch) (D : va_G) (cyI cyZ cyJ : ClassId) (h a1 a2 a3 : Nat) (u : CBu)  (hbd : cb_bd u) : CtI l yX0_bringAllHome wsX0_bringAllHome rmX0_bringAllHome D (T3 cyI cyZ cyJ) [.ref h] (CBc cyI cyZ h a1 a2 a3 u) (cb_hc (cb_bring u) - cb_hc u) (CBc cyI cyZ h a1 a2 a3 (cb_bring u)) := by
  obtain ⟨sc, pl, ln, bn, n, dt, hi, sw, mi, hc, co⟩ := u
  exact c_bring l D cyI cyZ cyJ h a1 a2 a3 sc pl ln bn n dt hi sw mi hc co hbd
theorem c_countLinesU (l : Launch) (D : va_G) (cyI cyZ cyJ : ClassId) (h a1 a2 a3 : Nat) (u : CBu)  (hbd : cb_bd u) : CtI l yX0_countLines wsX0_countLines rmX0_countLines D (T3 cyI cyZ cyJ) [.ref h] (CBc cyI cyZ h a1 a2 a3 u) (nI (cb_lines u)) (CBc cyI cyZ h a1 a2 a3 (u)) := by
  obtain ⟨sc, pl, ln, bn, n, dt, hi, sw, mi, hc, co⟩ := u
  exact c_countLines l D cyI cyZ cyJ h a1 a2 a3 sc pl ln bn n dt hi sw mi hc co hbd
theorem c_countDirtyU (l : Launch) (D : va_G) (cyI cyZ cyJ : ClassId) (h a1 a2 a3 : Nat) (u : CBu)   : CtI l yX0_countDirty wsX0_countDirty rmX0_countDirty D (T3 cyI cyZ cyJ) [.ref h] (CBc cyI cyZ h a1 a2 a3 u) (nI (cb_dirty u)) (CBc cyI cyZ h a1 a2 a3 (u)) := by
  obtain ⟨sc, pl, ln, bn, n, dt, hi, sw, mi, hc, co⟩ := u
  exact c_countDirty l D cyI cyZ cyJ h a1 a2 a3 sc pl ln bn n dt hi sw mi hc co 
theorem c_whereIsU (l : Launch) (D : va_G) (cyI cyZ cyJ : ClassId) (h a1 a2 a3 : Nat) (u : CBu) (q : Nat) (hbd : cb_bd u) (hq : q < 256) : CtI l yX0_whereIs wsX0_whereIs rmX0_whereIs D (T3 cyI cyZ cyJ) [.ref h, .int (nI q)] (CBc cyI cyZ h a1 a2 a3 u) (nI (cb_where q u)) (CBc cyI cyZ h a1 a2 a3 (u)) := by
  obtain ⟨sc, pl, ln, bn, n, dt, hi, sw, mi, hc, co⟩ := u
  exact c_whereIs l D cyI cyZ cyJ h a1 a2 a3 sc pl ln bn n dt hi sw mi hc co q hbd hq
theorem c_startEmptyU (l : Launch) (D : va_G) (cyI cyZ cyJ : ClassId) (h a1 a2 a3 : Nat) (u : CBu) (s' p' : Nat)  : CtV l yX0_startEmpty wsX0_startEmpty rmX0_startEmpty D (T3 cyI cyZ cyJ) [.ref h, .int (nI s'), .int (nI p')] (CBc cyI cyZ h a1 a2 a3 u) (CBc cyI cyZ h a1 a2 a3 (cb_empty s' p' u)) := by
  obtain ⟨sc, pl, ln, bn, n, dt, hi, sw, mi, hc, co⟩ := u
  exact c_startEmpty l D cyI cyZ cyJ h a1 a2 a3 sc pl ln bn n dt hi sw mi hc co s' p'
abbrev rmX1_add : Room := { frames := 0, cells := 0, slots := 0, locals := 0 }
set_option maxRecDepth 100000 in
set_option maxHeartbeats 4000000 in
theorem c_add (l : Launch) (D : va_G) (cyI cyZ cyJ : ClassId) (h a1 a2 : Nat) (ll : Nat → Nat) (lw : Nat → Bool) (lc lx : Nat) (q : Nat) (w : Bool) (hlc : lc ≤ 150) (hlx : lx < 150) : CtV l yX1_add wsX1_add rmX1_add D (T3 cyI cyZ cyJ) [.ref h, .int (nI q), .int (bI w)] (LAc cyI cyZ h a1 a2 (ll, lw, lc, lx)) (LAc cyI cyZ h a1 a2 (la_add q w (ll, lw, lc, lx))) := by
  refine CtV.of (cc := cX1_add) (maxL := 3) (ret := none) (lv0 := [(0, .ref h), (1, .int (nI q)), (2, .int (bI w))]) (by decide) rfl (Nat.le_of_ble_eq_true rfl) rfl ?_
  intro p e s m below meth c A ls args Q hx hb hml hr hlk hts hown hK hP hA hD hS hl hQ
  have hown : s.vm.findClass RX1 = some m.cls := hown
  have hi_RX1 : ∀ w ∈ wsX10, w ∈ wsX1_add := by decide +kernel
  have hf_9 := hts (.fieldLink RX1 9 "OutcastBench$LastAccesses" "lines" "[I") (by decide +kernel)
  have hf_15 := hts (.fieldLink RX1 15 "OutcastBench$LastAccesses" "writes" "[Z") (by decide +kernel)
  have hf_19 := hts (.fieldLink RX1 19 "OutcastBench$LastAccesses" "next" "I") (by decide +kernel)
  have hf_23 := hts (.fieldLink RX1 23 "OutcastBench$LastAccesses" "count" "I") (by decide +kernel)
  refine lv_aload_n hx hb dX1_add_0 rfl (lv_at hl 0 rfl) ?_
  refine va_get (D := D) (ci := 1) (v := .ref a1) (C := RX1) (T := TX1) (N := 4) hx hb hts hi_RX1 hown hK hP 0 rfl rfl 0 (by decide) hf_9 (fun _ h9 => h9) rfl dX1_add_1 ?_
  refine lv_aload_n hx hb dX1_add_4 rfl (lv_at hl 0 rfl) ?_
  refine va_get (D := D) (ci := 1) (v := .int (nI lx)) (C := RX1) (T := TX1) (N := 4) hx hb hts hi_RX1 hown hK hP 0 rfl rfl 3 (by decide) hf_19 (fun _ h9 => h9) rfl dX1_add_5 ?_
  refine lv_iload_n hx hb dX1_add_8 rfl (lv_at hl 1 rfl) ?_
  refine mq_st (k := lx) nI ll q (ws' := LAc cyI cyZ h a1 a2 (ru ll lx q, lw, lc, lx)) hx hb hK hP hD hS 1 0 rfl rfl (by omega) (Nat.le_of_ble_eq_true rfl) dX1_add_9 rfl (fun H locs hP hD hS => ?_)
  refine lv_aload_n hx hb dX1_add_10 rfl (lv_at hl 0 rfl) ?_
  refine va_get (D := D) (ci := 1) (v := .ref a2) (C := RX1) (T := TX1) (N := 4) hx hb hts hi_RX1 hown hK hP 0 rfl rfl 1 (by decide) hf_15 (fun _ h9 => h9) rfl dX1_add_11 ?_
  refine lv_aload_n hx hb dX1_add_14 rfl (lv_at hl 0 rfl) ?_
  refine va_get (D := D) (ci := 1) (v := .int (nI lx)) (C := RX1) (T := TX1) (N := 4) hx hb hts hi_RX1 hown hK hP 0 rfl rfl 3 (by decide) hf_19 (fun _ h9 => h9) rfl dX1_add_15 ?_
  refine lv_iload_n hx hb dX1_add_18 rfl (lv_at hl 2 rfl) ?_
  refine mq_zst (k := lx) lw w (ws' := LAc cyI cyZ h a1 a2 (ru ll lx q, ru lw lx w, lc, lx)) hx hb hK hP hD hS 2 1 rfl rfl (by omega) (Nat.le_of_ble_eq_true rfl) dX1_add_19 rfl (fun H locs hP hD hS => ?_)
  refine lv_aload_n hx hb dX1_add_20 rfl (lv_at hl 0 rfl) ?_
  refine lv_aload_n hx hb dX1_add_21 rfl (lv_at hl 0 rfl) ?_
  refine va_get (D := D) (ci := 1) (v := .int (nI lx)) (C := RX1) (T := TX1) (N := 4) hx hb hts hi_RX1 hown hK hP 0 rfl rfl 3 (by decide) hf_19 (fun _ h9 => h9) rfl dX1_add_22 ?_
  refine lv_iconst (v := nI 1) hx hb dX1_add_25 (by decide) ?_
  refine mq_iadd (x := lx) (y := 1) hx hb dX1_add_26 ?_
  refine lv_sipush (v := nI 150) hx hb dX1_add_27 (by decide) ?_
  refine mq_ge (x := (lx + 1)) (y := 150) (tgt := 42) (by omega) (by omega) hx hb dX1_add_30 (by decide) (fun c1 => ?_) (fun c1 => ?_)
  · refine lv_iconst (v := nI 0) hx hb dX1_add_42 (by decide) ?_
    refine mq_put (D := D) (ci := 1) (v := .int (nI 0)) (ty := .int) (C := RX1) (T := TX1) (N := 4) (ws' := LAc cyI cyZ h a1 a2 (ru ll lx q, ru lw lx w, lc, 0)) hx hb hts hi_RX1 tyX1 tyX1_ok nmX1 hown hK hP hD hS 0 rfl rfl 3 (by decide) hf_19 (fun _ h9 => h9) rfl (by decide +kernel) rfl rfl (Nat.le_of_ble_eq_true rfl) dX1_add_43 rfl (fun H locs hP hD hS => ?_)
    refine lv_aload_n hx hb dX1_add_46 rfl (lv_at hl 0 rfl) ?_
    refine va_get (D := D) (ci := 1) (v := .int (nI lc)) (C := RX1) (T := TX1) (N := 4) hx hb hts hi_RX1 hown hK hP 0 rfl rfl 2 (by decide) hf_23 (fun _ h9 => h9) rfl dX1_add_47 ?_
    refine lv_sipush (v := nI 150) hx hb dX1_add_50 (by decide) ?_
    refine mq_ge (x := lc) (y := 150) (tgt := 66) (by omega) (by omega) hx hb dX1_add_53 (by decide) (fun c2 => ?_) (fun c2 => ?_)
    · exact CtV.ret hQ hx hb hr hlk hK hP hD hS dX1_add_66 (congrArg (LAc cyI cyZ h a1 a2) (by simp only [la_add]; rw [if_neg (show ¬ lx + 1 < 150 by omega), if_neg (by omega)]))
    · refine lv_aload_n hx hb dX1_add_56 rfl (lv_at hl 0 rfl) ?_
      refine lv_dup hx hb dX1_add_57 rfl ?_
      refine va_get (D := D) (ci := 1) (v := .int (nI lc)) (C := RX1) (T := TX1) (N := 4) hx hb hts hi_RX1 hown hK hP 0 rfl rfl 2 (by decide) hf_23 (fun _ h9 => h9) rfl dX1_add_58 ?_
      refine lv_iconst (v := nI 1) hx hb dX1_add_61 (by decide) ?_
      refine mq_iadd (x := lc) (y := 1) hx hb dX1_add_62 ?_
      refine mq_put (D := D) (ci := 1) (v := .int (nI (lc + 1))) (ty := .int) (C := RX1) (T := TX1) (N := 4) (ws' := LAc cyI cyZ h a1 a2 (ru ll lx q, ru lw lx w, lc + 1, 0)) hx hb hts hi_RX1 tyX1 tyX1_ok nmX1 hown hK hP hD hS 0 rfl rfl 2 (by decide) hf_23 (fun _ h9 => h9) rfl (by decide +kernel) rfl rfl (Nat.le_of_ble_eq_true rfl) dX1_add_63 rfl (fun H locs hP hD hS => ?_)
      exact CtV.ret hQ hx hb hr hlk hK hP hD hS dX1_add_66 (congrArg (LAc cyI cyZ h a1 a2) (by simp only [la_add]; rw [if_neg (show ¬ lx + 1 < 150 by omega), if_pos (by omega)]))
  · refine lv_aload_n hx hb dX1_add_33 rfl (lv_at hl 0 rfl) ?_
    refine va_get (D := D) (ci := 1) (v := .int (nI lx)) (C := RX1) (T := TX1) (N := 4) hx hb hts hi_RX1 hown hK hP 0 rfl rfl 3 (by decide) hf_19 (fun _ h9 => h9) rfl dX1_add_34 ?_
    refine lv_iconst (v := nI 1) hx hb dX1_add_37 (by decide) ?_
    refine mq_iadd (x := lx) (y := 1) hx hb dX1_add_38 ?_
    refine lv_goto (tgt := 43) hx hb dX1_add_39 (by decide) ?_
    refine mq_put (D := D) (ci := 1) (v := .int (nI (lx + 1))) (ty := .int) (C := RX1) (T := TX1) (N := 4) (ws' := LAc cyI cyZ h a1 a2 (ru ll lx q, ru lw lx w, lc, lx + 1)) hx hb hts hi_RX1 tyX1 tyX1_ok nmX1 hown hK hP hD hS 0 rfl rfl 3 (by decide) hf_19 (fun _ h9 => h9) rfl (by decide +kernel) rfl rfl (Nat.le_of_ble_eq_true rfl) dX1_add_43 rfl (fun H locs hP hD hS => ?_)
    refine lv_aload_n hx hb dX1_add_46 rfl (lv_at hl 0 rfl) ?_
    refine va_get (D := D) (ci := 1) (v := .int (nI lc)) (C := RX1) (T := TX1) (N := 4) hx hb hts hi_RX1 hown hK hP 0 rfl rfl 2 (by decide) hf_23 (fun _ h9 => h9) rfl dX1_add_47 ?_
    refine lv_sipush (v := nI 150) hx hb dX1_add_50 (by decide) ?_
    refine mq_ge (x := lc) (y := 150) (tgt := 66) (by omega) (by omega) hx hb dX1_add_53 (by decide) (fun c2 => ?_) (fun c2 => ?_)
    · exact CtV.ret hQ hx hb hr hlk hK hP hD hS dX1_add_66 (congrArg (LAc cyI cyZ h a1 a2) (by simp only [la_add]; rw [if_pos c1, if_neg (by omega)]))
    · refine lv_aload_n hx hb dX1_add_56 rfl (lv_at hl 0 rfl) ?_
      refine lv_dup hx hb dX1_add_57 rfl ?_
      refine va_get (D := D) (ci := 1) (v := .int (nI lc)) (C := RX1) (T := TX1) (N := 4) hx hb hts hi_RX1 hown hK hP 0 rfl rfl 2 (by decide) hf_23 (fun _ h9 => h9) rfl dX1_add_58 ?_
      refine lv_iconst (v := nI 1) hx hb dX1_add_61 (by decide) ?_
      refine mq_iadd (x := lc) (y := 1) hx hb dX1_add_62 ?_
      refine mq_put (D := D) (ci := 1) (v := .int (nI (lc + 1))) (ty := .int) (C := RX1) (T := TX1) (N := 4) (ws' := LAc cyI cyZ h a1 a2 (ru ll lx q, ru lw lx w, lc + 1, lx + 1)) hx hb hts hi_RX1 tyX1 tyX1_ok nmX1 hown hK hP hD hS 0 rfl rfl 2 (by decide) hf_23 (fun _ h9 => h9) rfl (by decide +kernel) rfl rfl (Nat.le_of_ble_eq_true rfl) dX1_add_63 rfl (fun H locs hP hD hS => ?_)
      exact CtV.ret hQ hx hb hr hlk hK hP hD hS dX1_add_66 (congrArg (LAc cyI cyZ h a1 a2) (by simp only [la_add]; rw [if_pos c1, if_pos (by omega)]))
abbrev rmX1_slotOf : Room := { frames := 0, cells := 0, slots := 0, locals := 0 }
set_option maxRecDepth 100000 in
set_option maxHeartbeats 4000000 in
theorem c_slotOf (l : Launch) (D : va_G) (cyI cyZ cyJ : ClassId) (h a1 a2 : Nat) (ll : Nat → Nat) (lw : Nat → Bool) (lc lx : Nat) (k : Nat) (hlc : lc ≤ 150) (hlx : lx < 150) (hk : k < 150) : CtI l yX1_slotOf wsX1_slotOf rmX1_slotOf D (T3 cyI cyZ cyJ) [.ref h, .int (nI k)] (LAc cyI cyZ h a1 a2 (ll, lw, lc, lx)) (nI (la_slot k (ll, lw, lc, lx))) (LAc cyI cyZ h a1 a2 (ll, lw, lc, lx)) := by
  refine CtI.of (cc := cX1_slotOf) (maxL := 3) (ret := (some .int)) (lv0 := [(0, .ref h), (1, .int (nI k))]) (by decide) rfl (Nat.le_of_ble_eq_true rfl) rfl ?_
  intro p e s m below meth c A ls args Q hx hb hml hr hlk hts hown hK hP hA hD hS hl hQ
  have hown : s.vm.findClass RX1 = some m.cls := hown
  have hi_RX1 : ∀ w ∈ wsX10, w ∈ wsX1_slotOf := by decide +kernel
  have hf_19 := hts (.fieldLink RX1 19 "OutcastBench$LastAccesses" "next" "I") (by decide +kernel)
  have hf_23 := hts (.fieldLink RX1 23 "OutcastBench$LastAccesses" "count" "I") (by decide +kernel)
  refine lv_aload_n hx hb dX1_slotOf_0 rfl (lv_at hl 0 rfl) ?_
  refine va_get (D := D) (ci := 1) (v := .int (nI lc)) (C := RX1) (T := TX1) (N := 4) hx hb hts hi_RX1 hown hK hP 0 rfl rfl 2 (by decide) hf_23 (fun _ h9 => h9) rfl dX1_slotOf_1 ?_
  refine lv_sipush (v := nI 150) hx hb dX1_slotOf_4 (by decide) ?_
  refine mq_ge (x := lc) (y := 150) (tgt := 14) (by omega) (by omega) hx hb dX1_slotOf_7 (by decide) (fun c1 => ?_) (fun c1 => ?_)
  · refine lv_aload_n hx hb dX1_slotOf_14 rfl (lv_at hl 0 rfl) ?_
    refine va_get (D := D) (ci := 1) (v := .int (nI lx)) (C := RX1) (T := TX1) (N := 4) hx hb hts hi_RX1 hown hK hP 0 rfl rfl 3 (by decide) hf_19 (fun _ h9 => h9) rfl dX1_slotOf_15 ?_
    refine lv_istore_n (lv' := [(2, .int (nI lx)), (0, .ref h), (1, .int (nI k))]) hx hb dX1_slotOf_18 rfl hl (by decide) rfl (fun ls hl => ?_)
    refine lv_iload_n hx hb dX1_slotOf_19 rfl (lv_at hl 0 rfl) ?_
    refine lv_iload_n hx hb dX1_slotOf_20 rfl (lv_at hl 2 rfl) ?_
    refine mq_iadd (x := lx) (y := k) hx hb dX1_slotOf_21 ?_
    refine lv_sipush (v := nI 150) hx hb dX1_slotOf_22 (by decide) ?_
    refine mq_irem (x := (lx + k)) (y := 150) (by omega) (by decide) (by decide) hx hb dX1_slotOf_25 ?_
    exact CtI.ret hQ hx hb hr hlk hK hP hD hS dX1_slotOf_26 (by simp only [la_slot]; rw [if_neg (by omega)]) rfl
  · refine lv_iconst (v := nI 0) hx hb dX1_slotOf_10 (by decide) ?_
    refine lv_goto (tgt := 18) hx hb dX1_slotOf_11 (by decide) ?_
    refine lv_istore_n (lv' := [(2, .int (nI 0)), (0, .ref h), (1, .int (nI k))]) hx hb dX1_slotOf_18 rfl hl (by decide) rfl (fun ls hl => ?_)
    refine lv_iload_n hx hb dX1_slotOf_19 rfl (lv_at hl 0 rfl) ?_
    refine lv_iload_n hx hb dX1_slotOf_20 rfl (lv_at hl 2 rfl) ?_
    refine mq_iadd (x := 0) (y := k) hx hb dX1_slotOf_21 ?_
    refine lv_sipush (v := nI 150) hx hb dX1_slotOf_22 (by decide) ?_
    refine mq_irem (x := (0 + k)) (y := 150) (by omega) (by decide) (by decide) hx hb dX1_slotOf_25 ?_
    exact CtI.ret hQ hx hb hr hlk hK hP hD hS dX1_slotOf_26 (by simp only [la_slot]; rw [if_pos c1]) rfl
theorem c_addU (l : Launch) (D : va_G) (cyI cyZ cyJ : ClassId) (h a1 a2 : Nat) (la : LAu) (q : Nat) (w : Bool) (hla : la_bd la) : CtV l yX1_add wsX1_add rmX1_add D (T3 cyI cyZ cyJ) [.ref h, .int (nI q), .int (bI w)] (LAc cyI cyZ h a1 a2 la) (LAc cyI cyZ h a1 a2 (la_add q w la)) := by
  obtain ⟨ll, lw, lc, lx⟩ := la
  obtain ⟨hlc, hlx, hll⟩ := hla
  exact c_add l D cyI cyZ cyJ h a1 a2 ll lw lc lx q w hlc hlx
theorem c_slotOfU (l : Launch) (D : va_G) (cyI cyZ cyJ : ClassId) (h a1 a2 : Nat) (la : LAu) (k : Nat) (hla : la_bd la) (hk : k < 150) : CtI l yX1_slotOf wsX1_slotOf rmX1_slotOf D (T3 cyI cyZ cyJ) [.ref h, .int (nI k)] (LAc cyI cyZ h a1 a2 la) (nI (la_slot k la)) (LAc cyI cyZ h a1 a2 (la)) := by
  obtain ⟨ll, lw, lc, lx⟩ := la
  obtain ⟨hlc, hlx, hll⟩ := hla
  exact c_slotOf l D cyI cyZ cyJ h a1 a2 ll lw lc lx k hlc hlx hk

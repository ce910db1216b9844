/-! the law's roads: reading, writing, walking, care; a turn's end -/
section
variable {p : Program} {l : Launch} {e : Env} {s : State} {m : MethodId} {args : Array Value} {below : List Frame} {meth : Method} {c : Code} {H : Heap} {locs : List Loc} {cells slots : Nat} {Q : State → Prop}
variable {ls : Array Slot} {D : va_G} {A : Nat → Prop} {cyI cyZ cyJ : ClassId} {b L : Nat} {xs : Nat → Int32} {ad : Nat → Nat} {qa k x sl : Nat}
variable {wr hm w : Nat → Int32} {u tr : CBu} {la : LAu}
set_option maxRecDepth 100000 in
set_option maxHeartbeats 4000000 in
theorem t_tail (hC : LC p s m args meth c D A cyI cyZ cyJ b L xs) (kt : KT p l e s m args below meth c Q D A cyI cyZ b ad qa cells slots (k + 1)) (hk : k < 150) (hcel : cells ≤ 152 ∧ slots ≤ 4085) (hsl : sl < 64) (hinv : LInv (k + 1) wr w u la) (hq : x % 16 ≤ 11 → cb_where (ads sl / 4) u = 1) (hP : va_P D vwCl (wLw cyI cyZ ad qa wr hm w u cb_new la) H) (hD : va_D A (wLw cyI cyZ ad qa wr hm w u cb_new la)) (hS : va_S A s.heap H locs) (hl : lv_has ls 13 (lvE b (ad 0) qa k x sl)) : W p l e room_1 s m args below meth c H locs cells slots Q (F0 m 519 ls []) := by
  have hC0 := hC
  obtain ⟨hx, hb, hown, hts, hml, hK, hA, hX, hbl, hbA, hL⟩ := hC
  obtain ⟨hok, hla, hcf, hbd⟩ := linv_ok hinv
  have ha := ads_lt hsl
  refine lv_iload_n hx hb dL_law_519 rfl (lv_at hl 3 rfl) ?_
  refine mq_z (x := 1) (tgt := 564) (by omega) hx hb dL_law_520 (by decide) (fun c1 => ?_) (fun c1 => ?_)
  · exact absurd c1 (by decide)
  · refine lv_iload hx hb dL_law_523 (lv_at hl 6 rfl) ?_
    refine lv_bipush (v := nI 11) hx hb dL_law_525 (by decide) ?_
    refine mq_gt (x := (x % 16)) (y := 11) (tgt := 545) (by omega) (by omega) hx hb dL_law_527 (by decide) (fun c2 => ?_) (fun c2 => ?_)
    · refine lv_iload hx hb dL_law_545 (lv_at hl 4 rfl) ?_
      refine lv_bipush (v := nI 10) hx hb dL_law_547 (by decide) ?_
      refine mq_irem (x := k) (y := 10) (by omega) (by omega) (by omega) hx hb dL_law_549 ?_
      refine lv_if_gt (x := nI (k % 10)) (tgt := 560) hx hb dL_law_550 (by decide) (fun c4 => ?_) (fun c4 => ?_)
      · refine lv_iconst (v := nI 1) hx hb dL_law_560 (by decide) ?_
        refine lv_goto (tgt := 565) hx hb dL_law_561 (by decide) ?_
        refine lv_istore_n (lv' := [(3, .int (nI 1)), (0, .ref b), (1, .ref (ad 0)), (2, .ref qa), (4, .int (nI k)), (6, .int (nI sl)), (7, .int (nI (x % 16)))]) hx hb dL_law_565 rfl hl (by decide) rfl (fun ls hl => ?_)
        refine lv_iinc (v := nI (k + 1)) (lv' := [(4, .int (nI (k + 1))), (3, .int (nI 1)), (0, .ref b), (1, .ref (ad 0)), (2, .ref qa), (6, .int (nI sl)), (7, .int (nI (x % 16)))]) hx hb dL_law_566 hl (k := 4) rfl (inc1 _) (by decide) rfl (fun ls hl => ?_)
        refine lv_goto (tgt := 18) hx hb dL_law_569 (by decide) ?_
        exact kt _ _ _ _ _ _ _ _ hinv hP hD hS (lv_sub hl [2, 3, 4, 1, 0] rfl)
      · refine lv_aload_n hx hb dL_law_553 rfl (lv_at hl 1 rfl) ?_
        refine CtI.callS (n := 1) (As := [.ref (ad 0)]) (rest := []) (ws' := wLw cyI cyZ ad qa wr hm w u cb_new la) (o_isInOrder l D cyI cyZ cyJ ad wr hm u cb_new la hok hcf) ⟨hx, hb, hown, hts⟩ gL_law_L_isInOrder rfl ⟨by decide, by decide, by decide +kernel⟩ ⟨Nat.le_of_ble_eq_true rfl, Nat.le_of_ble_eq_true rfl⟩ ⟨rfl, rfl⟩ hml hl.1 hK hP hD hS hA (ctJ_l (n := 14) (r := 1) (wOo_len _ _ _ _ _ _ _ _) rfl (wOo_len _ _ _ _ _ _ _ _) rfl rfl rfl rfl) rfl rfl (Nat.le_of_ble_eq_true rfl) hcel dL_law_554 (fun H locs hP hD hS => ?_)
        refine mq_z (x := 1) (tgt := 564) (by omega) hx hb dL_law_557 (by decide) (fun c5 => ?_) (fun c5 => ?_)
        · exact absurd c5 (by decide)
        · refine lv_iconst (v := nI 1) hx hb dL_law_560 (by decide) ?_
          refine lv_goto (tgt := 565) hx hb dL_law_561 (by decide) ?_
          refine lv_istore_n (lv' := [(3, .int (nI 1)), (0, .ref b), (1, .ref (ad 0)), (2, .ref qa), (4, .int (nI k)), (6, .int (nI sl)), (7, .int (nI (x % 16)))]) hx hb dL_law_565 rfl hl (by decide) rfl (fun ls hl => ?_)
          refine lv_iinc (v := nI (k + 1)) (lv' := [(4, .int (nI (k + 1))), (3, .int (nI 1)), (0, .ref b), (1, .ref (ad 0)), (2, .ref qa), (6, .int (nI sl)), (7, .int (nI (x % 16)))]) hx hb dL_law_566 hl (k := 4) rfl (inc1 _) (by decide) rfl (fun ls hl => ?_)
          refine lv_goto (tgt := 18) hx hb dL_law_569 (by decide) ?_
          exact kt _ _ _ _ _ _ _ _ hinv hP hD hS (lv_sub hl [2, 3, 4, 1, 0] rfl)
    · refine lv_aload_n hx hb dL_law_530 rfl (lv_at hl 1 rfl) ?_
      refine lv_iload hx hb dL_law_531 (lv_at hl 5 rfl) ?_
      refine CtI.callS (n := 1) (As := [.int (nI sl)]) (rest := [.ref (ad 0)]) (ws' := wLw cyI cyZ ad qa wr hm w u cb_new la) (c_address l D cyI cyZ cyJ sl hsl) ⟨hx, hb, hown, hts⟩ gL_law_L_address rfl ⟨by decide, by decide, by decide +kernel⟩ ⟨Nat.le_of_ble_eq_true rfl, Nat.le_of_ble_eq_true rfl⟩ ⟨rfl, rfl⟩ hml hl.1 hK hP hD hS hA (ctJ_0 (n := 15) (wLw_len _ _ _ _ _ _ _ _ _ _) rfl rfl) rfl rfl (Nat.le_of_ble_eq_true rfl) hcel dL_law_533 (fun H locs hP hD hS => ?_)
      refine lv_iconst (v := nI 4) hx hb dL_law_536 (by decide) ?_
      refine mq_idiv (x := (ads sl)) (y := 4) (by omega) (by omega) (by omega) hx hb dL_law_537 ?_
      refine CtI.callV (n := 1) (q0 := 0) (ci := 2) (As := [.int (nI ((ads sl) / 4))]) (rest := []) (ws' := wLw cyI cyZ ad qa wr hm w u cb_new la) (o_placeOf l D cyI cyZ cyJ ad wr hm u cb_new la ((ads sl) / 4) hbd (by omega)) ⟨hx, hb, hown, hts⟩ gL_law_X2_placeOf rfl ⟨rfl, by decide, by decide, by decide +kernel⟩ ⟨Nat.le_of_ble_eq_true rfl, Nat.le_of_ble_eq_true rfl⟩ ⟨rfl, rfl⟩ hml hl.1 hK hP hD hS hA (ctJ_l (n := 14) (r := 1) (wOo_len _ _ _ _ _ _ _ _) rfl (wOo_len _ _ _ _ _ _ _ _) rfl rfl rfl rfl) (wOo_h _ _ _ _ _ _ _ _) ⟨rfl, rfl⟩ rfl rfl (Nat.le_of_ble_eq_true rfl) hcel dL_law_538 (fun H locs hP hD hS => ?_)
      refine lv_iconst (v := nI 1) hx hb dL_law_541 (by decide) ?_
      refine mq_ne (x := (cb_where ((ads sl) / 4) u)) (y := 1) (tgt := 564) (by have := where_lt (ads sl / 4) u; omega) (by omega) hx hb dL_law_542 (by decide) (fun c3 => ?_) (fun c3 => ?_)
      · exact absurd (hq (by omega)) c3
      · refine lv_iload hx hb dL_law_545 (lv_at hl 4 rfl) ?_
        refine lv_bipush (v := nI 10) hx hb dL_law_547 (by decide) ?_
        refine mq_irem (x := k) (y := 10) (by omega) (by omega) (by omega) hx hb dL_law_549 ?_
        refine lv_if_gt (x := nI (k % 10)) (tgt := 560) hx hb dL_law_550 (by decide) (fun c4 => ?_) (fun c4 => ?_)
        · refine lv_iconst (v := nI 1) hx hb dL_law_560 (by decide) ?_
          refine lv_goto (tgt := 565) hx hb dL_law_561 (by decide) ?_
          refine lv_istore_n (lv' := [(3, .int (nI 1)), (0, .ref b), (1, .ref (ad 0)), (2, .ref qa), (4, .int (nI k)), (6, .int (nI sl)), (7, .int (nI (x % 16)))]) hx hb dL_law_565 rfl hl (by decide) rfl (fun ls hl => ?_)
          refine lv_iinc (v := nI (k + 1)) (lv' := [(4, .int (nI (k + 1))), (3, .int (nI 1)), (0, .ref b), (1, .ref (ad 0)), (2, .ref qa), (6, .int (nI sl)), (7, .int (nI (x % 16)))]) hx hb dL_law_566 hl (k := 4) rfl (inc1 _) (by decide) rfl (fun ls hl => ?_)
          refine lv_goto (tgt := 18) hx hb dL_law_569 (by decide) ?_
          exact kt _ _ _ _ _ _ _ _ hinv hP hD hS (lv_sub hl [2, 3, 4, 1, 0] rfl)
        · refine lv_aload_n hx hb dL_law_553 rfl (lv_at hl 1 rfl) ?_
          refine CtI.callS (n := 1) (As := [.ref (ad 0)]) (rest := []) (ws' := wLw cyI cyZ ad qa wr hm w u cb_new la) (o_isInOrder l D cyI cyZ cyJ ad wr hm u cb_new la hok hcf) ⟨hx, hb, hown, hts⟩ gL_law_L_isInOrder rfl ⟨by decide, by decide, by decide +kernel⟩ ⟨Nat.le_of_ble_eq_true rfl, Nat.le_of_ble_eq_true rfl⟩ ⟨rfl, rfl⟩ hml hl.1 hK hP hD hS hA (ctJ_l (n := 14) (r := 1) (wOo_len _ _ _ _ _ _ _ _) rfl (wOo_len _ _ _ _ _ _ _ _) rfl rfl rfl rfl) rfl rfl (Nat.le_of_ble_eq_true rfl) hcel dL_law_554 (fun H locs hP hD hS => ?_)
          refine mq_z (x := 1) (tgt := 564) (by omega) hx hb dL_law_557 (by decide) (fun c5 => ?_) (fun c5 => ?_)
          · exact absurd c5 (by decide)
          · refine lv_iconst (v := nI 1) hx hb dL_law_560 (by decide) ?_
            refine lv_goto (tgt := 565) hx hb dL_law_561 (by decide) ?_
            refine lv_istore_n (lv' := [(3, .int (nI 1)), (0, .ref b), (1, .ref (ad 0)), (2, .ref qa), (4, .int (nI k)), (6, .int (nI sl)), (7, .int (nI (x % 16)))]) hx hb dL_law_565 rfl hl (by decide) rfl (fun ls hl => ?_)
            refine lv_iinc (v := nI (k + 1)) (lv' := [(4, .int (nI (k + 1))), (3, .int (nI 1)), (0, .ref b), (1, .ref (ad 0)), (2, .ref qa), (6, .int (nI sl)), (7, .int (nI (x % 16)))]) hx hb dL_law_566 hl (k := 4) rfl (inc1 _) (by decide) rfl (fun ls hl => ?_)
            refine lv_goto (tgt := 18) hx hb dL_law_569 (by decide) ?_
            exact kt _ _ _ _ _ _ _ _ hinv hP hD hS (lv_sub hl [2, 3, 4, 1, 0] rfl)
set_option maxRecDepth 100000 in
set_option maxHeartbeats 4000000 in
theorem t_read (hC : LC p s m args meth c D A cyI cyZ cyJ b L xs) (kt : KT p l e s m args below meth c Q D A cyI cyZ b ad qa cells slots (k + 1)) (hk : k < 150) (hcel : cells ≤ 152 ∧ slots ≤ 4085) (hx3 : x < 30000) (hsl : sl < 64) (hinv : LInv k wr w u la) (hP : va_P D vwCl (wLw cyI cyZ ad qa wr hm w u cb_new la) H) (hD : va_D A (wLw cyI cyZ ad qa wr hm w u cb_new la)) (hS : va_S A s.heap H locs) (hl : lv_has ls 13 (lvT b (ad 0) qa k x sl u)) : W p l e room_1 s m args below meth c H locs cells slots Q (F0 m 102 ls []) := by
  have hC0 := hC
  obtain ⟨hx, hb, hown, hts, hml, hK, hA, hX, hbl, hbA, hL⟩ := hC
  obtain ⟨hok, hla, hcf, hbd⟩ := linv_ok hinv
  have ha := ads_lt hsl
  have hw := hinv.2
  have hw3 := where_lt (ads sl / 4) u
  refine lv_aload_n hx hb dL_law_102 rfl (lv_at hl 1 rfl) ?_
  refine lv_iload hx hb dL_law_103 (lv_at hl 6 rfl) ?_
  refine CtI.callS (n := 1) (As := [.int (nI sl)]) (rest := [.ref (ad 0)]) (ws' := wLw cyI cyZ ad qa wr hm w u cb_new la) (c_address l D cyI cyZ cyJ sl hsl) ⟨hx, hb, hown, hts⟩ gL_law_L_address rfl ⟨by decide, by decide, by decide +kernel⟩ ⟨Nat.le_of_ble_eq_true rfl, Nat.le_of_ble_eq_true rfl⟩ ⟨rfl, rfl⟩ hml hl.1 hK hP hD hS hA (ctJ_0 (n := 15) (wLw_len _ _ _ _ _ _ _ _ _ _) rfl rfl) rfl rfl (Nat.le_of_ble_eq_true rfl) hcel dL_law_105 (fun H locs hP hD hS => ?_)
  refine CtI.callV (n := 1) (q0 := 0) (ci := 2) (As := [.int (nI (ads sl))]) (rest := []) (ws' := wLw cyI cyZ ad qa wr hm w (cb_acc (ads sl / 4) false u) cb_new (la_add (ads sl / 4) false la)) (o_read l D cyI cyZ cyJ ad wr hm u cb_new la (ads sl) hbd hla ha) ⟨hx, hb, hown, hts⟩ gL_law_X2_read rfl ⟨rfl, by decide, by decide, by decide +kernel⟩ ⟨Nat.le_of_ble_eq_true rfl, Nat.le_of_ble_eq_true rfl⟩ ⟨rfl, rfl⟩ hml hl.1 hK hP hD hS hA (ctJ_l (n := 14) (r := 1) (wOo_len _ _ _ _ _ _ _ _) rfl (wOo_len _ _ _ _ _ _ _ _) rfl rfl rfl rfl) (wOo_h _ _ _ _ _ _ _ _) ⟨rfl, rfl⟩ rfl rfl (Nat.le_of_ble_eq_true rfl) hcel dL_law_108 (fun H locs hP hD hS => ?_)
  refine lv_aload_n hx hb dL_law_111 rfl (lv_at hl 2 rfl) ?_
  refine lv_iload hx hb dL_law_112 (lv_at hl 6 rfl) ?_
  refine mq_ldR (k := sl) w hx hb hK hP 14 0 (wL_q _ _ _ _ _ _ _ _ _ _) rfl (by omega) (Nat.le_of_ble_eq_true rfl) dL_law_114 ?_
  refine lv_icmp_ne (x := wr (ads sl)) (y := w sl) (tgt := 143) hx hb dL_law_115 (by decide) (fun c1 => ?_) (fun c1 => ?_)
  · exact absurd (hw sl hsl).symm c1
  · refine lv_aload_n hx hb dL_law_118 rfl (lv_at hl 1 rfl) ?_
    refine CtI.callV (n := 0) (q0 := 0) (ci := 2) (As := []) (rest := []) (ws' := wLw cyI cyZ ad qa wr hm w (cb_acc (ads sl / 4) false u) cb_new (la_add (ads sl / 4) false la)) (o_hits l D cyI cyZ cyJ ad wr hm (cb_acc (ads sl / 4) false u) cb_new (la_add (ads sl / 4) false la) ) ⟨hx, hb, hown, hts⟩ gL_law_X2_hits rfl ⟨rfl, by decide, by decide, by decide +kernel⟩ ⟨Nat.le_of_ble_eq_true rfl, Nat.le_of_ble_eq_true rfl⟩ ⟨rfl, rfl⟩ hml hl.1 hK hP hD hS hA (ctJ_l (n := 14) (r := 1) (wOo_len _ _ _ _ _ _ _ _) rfl (wOo_len _ _ _ _ _ _ _ _) rfl rfl rfl rfl) (wOo_h _ _ _ _ _ _ _ _) ⟨rfl, rfl⟩ rfl rfl (Nat.le_of_ble_eq_true rfl) hcel dL_law_119 (fun H locs hP hD hS => ?_)
    refine lv_iload hx hb dL_law_122 (lv_at hl 8 rfl) ?_
    refine lv_iload hx hb dL_law_124 (lv_at hl 10 rfl) ?_
    refine lv_iconst (v := nI 1) hx hb dL_law_126 (by decide) ?_
    refine mq_ne (x := (cb_where (ads sl / 4) u)) (y := 1) (tgt := 134) (by omega) (by omega) hx hb dL_law_127 (by decide) (fun c2 => ?_) (fun c2 => ?_)
    · refine lv_iconst (v := nI 0) hx hb dL_law_134 (by decide) ?_
      refine lv_iadd (x := cb_hi u) (y := nI 0) hx hb dL_law_135 ?_
      refine lv_icmp_ne (x := cb_hi (cb_acc (ads sl / 4) false u)) (y := cb_hi u + nI 0) (tgt := 143) hx hb dL_law_136 (by decide) (fun c3 => ?_) (fun c3 => ?_)
      · exact absurd (hi_not false c2) c3
      · refine lv_iconst (v := nI 1) hx hb dL_law_139 (by decide) ?_
        refine lv_goto (tgt := 144) hx hb dL_law_140 (by decide) ?_
        refine lv_istore_n (lv' := [(3, .int (nI 1)), (0, .ref b), (1, .ref (ad 0)), (2, .ref qa), (4, .int (nI k)), (5, .int (nI x)), (6, .int (nI sl)), (7, .int (nI (x % 16))), (8, .int (cb_hi u)), (9, .int (cb_co u)), (10, .int (nI (cb_where (ads sl / 4) u)))]) hx hb dL_law_144 rfl hl (by decide) rfl (fun ls hl => ?_)
        refine lv_goto (tgt := 519) hx hb dL_law_145 (by decide) ?_
        exact t_tail (x := x) (sl := sl) hC0 kt hk hcel hsl (linv_read hinv (by omega)) (fun _ => acc_in _ _ _) hP hD hS (lv_sub hl [1, 2, 3, 0, 4, 6, 7] rfl)
    · refine lv_iconst (v := nI 1) hx hb dL_law_130 (by decide) ?_
      refine lv_goto (tgt := 135) hx hb dL_law_131 (by decide) ?_
      refine lv_iadd (x := cb_hi u) (y := nI 1) hx hb dL_law_135 ?_
      refine lv_icmp_ne (x := cb_hi (cb_acc (ads sl / 4) false u)) (y := cb_hi u + nI 1) (tgt := 143) hx hb dL_law_136 (by decide) (fun c3 => ?_) (fun c3 => ?_)
      · exact absurd (hi_hit false c2) c3
      · refine lv_iconst (v := nI 1) hx hb dL_law_139 (by decide) ?_
        refine lv_goto (tgt := 144) hx hb dL_law_140 (by decide) ?_
        refine lv_istore_n (lv' := [(3, .int (nI 1)), (0, .ref b), (1, .ref (ad 0)), (2, .ref qa), (4, .int (nI k)), (5, .int (nI x)), (6, .int (nI sl)), (7, .int (nI (x % 16))), (8, .int (cb_hi u)), (9, .int (cb_co u)), (10, .int (nI (cb_where (ads sl / 4) u)))]) hx hb dL_law_144 rfl hl (by decide) rfl (fun ls hl => ?_)
        refine lv_goto (tgt := 519) hx hb dL_law_145 (by decide) ?_
        exact t_tail (x := x) (sl := sl) hC0 kt hk hcel hsl (linv_read hinv (by omega)) (fun _ => acc_in _ _ _) hP hD hS (lv_sub hl [1, 2, 3, 0, 4, 6, 7] rfl)
set_option maxRecDepth 100000 in
set_option maxHeartbeats 4000000 in
theorem t_write (hC : LC p s m args meth c D A cyI cyZ cyJ b L xs) (kt : KT p l e s m args below meth c Q D A cyI cyZ b ad qa cells slots (k + 1)) (hk : k < 150) (hcel : cells ≤ 152 ∧ slots ≤ 4085) (hx3 : x < 30000) (hsl : sl < 64) (hinv : LInv k wr w u la) (hP : va_P D vwCl (wLw cyI cyZ ad qa wr hm w u cb_new la) H) (hD : va_D A (wLw cyI cyZ ad qa wr hm w u cb_new la)) (hS : va_S A s.heap H locs) (hl : lv_has ls 13 (lvT b (ad 0) qa k x sl u)) : W p l e room_1 s m args below meth c H locs cells slots Q (F0 m 155 ls []) := by
  have hC0 := hC
  obtain ⟨hx, hb, hown, hts, hml, hK, hA, hX, hbl, hbA, hL⟩ := hC
  obtain ⟨hok, hla, hcf, hbd⟩ := linv_ok hinv
  have ha := ads_lt hsl
  have hw := hinv.2
  have hw3 := where_lt (ads sl / 4) u
  refine lv_aload_n hx hb dL_law_155 rfl (lv_at hl 1 rfl) ?_
  refine lv_iload hx hb dL_law_156 (lv_at hl 6 rfl) ?_
  refine CtI.callS (n := 1) (As := [.int (nI sl)]) (rest := [.ref (ad 0)]) (ws' := wLw cyI cyZ ad qa wr hm w u cb_new la) (c_address l D cyI cyZ cyJ sl hsl) ⟨hx, hb, hown, hts⟩ gL_law_L_address rfl ⟨by decide, by decide, by decide +kernel⟩ ⟨Nat.le_of_ble_eq_true rfl, Nat.le_of_ble_eq_true rfl⟩ ⟨rfl, rfl⟩ hml hl.1 hK hP hD hS hA (ctJ_0 (n := 15) (wLw_len _ _ _ _ _ _ _ _ _ _) rfl rfl) rfl rfl (Nat.le_of_ble_eq_true rfl) hcel dL_law_158 (fun H locs hP hD hS => ?_)
  refine lv_iload hx hb dL_law_161 (lv_at hl 5 rfl) ?_
  refine lv_iload hx hb dL_law_163 (lv_at hl 4 rfl) ?_
  refine lv_isub (x := nI x) (y := nI k) hx hb dL_law_165 ?_
  refine CtI.callV (n := 2) (q0 := 0) (ci := 2) (As := [.int (nI (ads sl)), .int (nI x - nI k)]) (rest := []) (ws' := wLw cyI cyZ ad qa (ru wr (ads sl) (nI x - nI k)) (if cb_dt u (ads sl / 4) = true then hm else cpy hm wr (ads sl / 4 * 4) (ads sl / 4 * 4 + 4)) w (cb_acc (ads sl / 4) true u) cb_new (la_add (ads sl / 4) true la)) (o_write l D cyI cyZ cyJ ad wr hm u cb_new la (ads sl) (nI x - nI k) hbd hla ha) ⟨hx, hb, hown, hts⟩ gL_law_X2_write rfl ⟨rfl, by decide, by decide, by decide +kernel⟩ ⟨Nat.le_of_ble_eq_true rfl, Nat.le_of_ble_eq_true rfl⟩ ⟨rfl, rfl⟩ hml hl.1 hK hP hD hS hA (ctJ_l (n := 14) (r := 1) (wOo_len _ _ _ _ _ _ _ _) rfl (wOo_len _ _ _ _ _ _ _ _) rfl rfl rfl rfl) (wOo_h _ _ _ _ _ _ _ _) ⟨rfl, rfl⟩ rfl rfl (Nat.le_of_ble_eq_true rfl) hcel dL_law_166 (fun H locs hP hD hS => ?_)
  refine lv_aload_n hx hb dL_law_169 rfl (lv_at hl 2 rfl) ?_
  refine lv_iload hx hb dL_law_170 (lv_at hl 6 rfl) ?_
  refine mq_ldR (k := sl) w hx hb hK hP 14 0 (wL_q _ _ _ _ _ _ _ _ _ _) rfl (by omega) (Nat.le_of_ble_eq_true rfl) dL_law_172 ?_
  refine lv_icmp_ne (x := wr (ads sl)) (y := w sl) (tgt := 211) hx hb dL_law_173 (by decide) (fun c1 => ?_) (fun c1 => ?_)
  · exact absurd (hw sl hsl).symm c1
  · refine lv_aload_n hx hb dL_law_176 rfl (lv_at hl 1 rfl) ?_
    refine lv_iload hx hb dL_law_177 (lv_at hl 6 rfl) ?_
    refine CtI.callS (n := 1) (As := [.int (nI sl)]) (rest := [.ref (ad 0)]) (ws' := wLw cyI cyZ ad qa (ru wr (ads sl) (nI x - nI k)) (if cb_dt u (ads sl / 4) = true then hm else cpy hm wr (ads sl / 4 * 4) (ads sl / 4 * 4 + 4)) w (cb_acc (ads sl / 4) true u) cb_new (la_add (ads sl / 4) true la)) (c_address l D cyI cyZ cyJ sl hsl) ⟨hx, hb, hown, hts⟩ gL_law_L_address rfl ⟨by decide, by decide, by decide +kernel⟩ ⟨Nat.le_of_ble_eq_true rfl, Nat.le_of_ble_eq_true rfl⟩ ⟨rfl, rfl⟩ hml hl.1 hK hP hD hS hA (ctJ_0 (n := 15) (wLw_len _ _ _ _ _ _ _ _ _ _) rfl rfl) rfl rfl (Nat.le_of_ble_eq_true rfl) hcel dL_law_179 (fun H locs hP hD hS => ?_)
    refine lv_iconst (v := nI 4) hx hb dL_law_182 (by decide) ?_
    refine mq_idiv (x := (ads sl)) (y := 4) (by omega) (by omega) (by omega) hx hb dL_law_183 ?_
    refine CtI.callV (n := 1) (q0 := 0) (ci := 2) (As := [.int (nI ((ads sl) / 4))]) (rest := []) (ws' := wLw cyI cyZ ad qa (ru wr (ads sl) (nI x - nI k)) (if cb_dt u (ads sl / 4) = true then hm else cpy hm wr (ads sl / 4 * 4) (ads sl / 4 * 4 + 4)) w (cb_acc (ads sl / 4) true u) cb_new (la_add (ads sl / 4) true la)) (o_isDirty l D cyI cyZ cyJ ad (ru wr (ads sl) (nI x - nI k)) (if cb_dt u (ads sl / 4) = true then hm else cpy hm wr (ads sl / 4 * 4) (ads sl / 4 * 4 + 4)) (cb_acc (ads sl / 4) true u) cb_new (la_add (ads sl / 4) true la) ((ads sl) / 4) (by omega)) ⟨hx, hb, hown, hts⟩ gL_law_X2_isDirty rfl ⟨rfl, by decide, by decide, by decide +kernel⟩ ⟨Nat.le_of_ble_eq_true rfl, Nat.le_of_ble_eq_true rfl⟩ ⟨rfl, rfl⟩ hml hl.1 hK hP hD hS hA (ctJ_l (n := 14) (r := 1) (wOo_len _ _ _ _ _ _ _ _) rfl (wOo_len _ _ _ _ _ _ _ _) rfl rfl rfl rfl) (wOo_h _ _ _ _ _ _ _ _) ⟨rfl, rfl⟩ rfl rfl (Nat.le_of_ble_eq_true rfl) hcel dL_law_184 (fun H locs hP hD hS => ?_)
    refine mq_bz (b := (cb_dt (cb_acc (ads sl / 4) true u) ((ads sl) / 4))) (tgt := 211) hx hb dL_law_187 (by decide) (fun c2 => ?_) (fun c2 => ?_)
    · exact absurd ((acc_dirty (ads sl / 4) u).symm.trans c2) (by decide)
    · refine lv_aload_n hx hb dL_law_190 rfl (lv_at hl 1 rfl) ?_
      refine lv_iload hx hb dL_law_191 (lv_at hl 6 rfl) ?_
      refine CtI.callS (n := 1) (As := [.int (nI sl)]) (rest := [.ref (ad 0)]) (ws' := wLw cyI cyZ ad qa (ru wr (ads sl) (nI x - nI k)) (if cb_dt u (ads sl / 4) = true then hm else cpy hm wr (ads sl / 4 * 4) (ads sl / 4 * 4 + 4)) w (cb_acc (ads sl / 4) true u) cb_new (la_add (ads sl / 4) true la)) (c_address l D cyI cyZ cyJ sl hsl) ⟨hx, hb, hown, hts⟩ gL_law_L_address rfl ⟨by decide, by decide, by decide +kernel⟩ ⟨Nat.le_of_ble_eq_true rfl, Nat.le_of_ble_eq_true rfl⟩ ⟨rfl, rfl⟩ hml hl.1 hK hP hD hS hA (ctJ_0 (n := 15) (wLw_len _ _ _ _ _ _ _ _ _ _) rfl rfl) rfl rfl (Nat.le_of_ble_eq_true rfl) hcel dL_law_193 (fun H locs hP hD hS => ?_)
      refine CtI.callV (n := 1) (q0 := 0) (ci := 2) (As := [.int (nI (ads sl))]) (rest := []) (ws' := wLw cyI cyZ ad qa (ru wr (ads sl) (nI x - nI k)) (if cb_dt u (ads sl / 4) = true then hm else cpy hm wr (ads sl / 4 * 4) (ads sl / 4 * 4 + 4)) w (cb_acc (ads sl / 4) true u) cb_new (la_add (ads sl / 4) true la)) (o_peek l D cyI cyZ cyJ ad (ru wr (ads sl) (nI x - nI k)) (if cb_dt u (ads sl / 4) = true then hm else cpy hm wr (ads sl / 4 * 4) (ads sl / 4 * 4 + 4)) (cb_acc (ads sl / 4) true u) cb_new (la_add (ads sl / 4) true la) (ads sl) (by omega)) ⟨hx, hb, hown, hts⟩ gL_law_X2_peek rfl ⟨rfl, by decide, by decide, by decide +kernel⟩ ⟨Nat.le_of_ble_eq_true rfl, Nat.le_of_ble_eq_true rfl⟩ ⟨rfl, rfl⟩ hml hl.1 hK hP hD hS hA (ctJ_l (n := 14) (r := 1) (wOo_len _ _ _ _ _ _ _ _) rfl (wOo_len _ _ _ _ _ _ _ _) rfl rfl rfl rfl) (wOo_h _ _ _ _ _ _ _ _) ⟨rfl, rfl⟩ rfl rfl (Nat.le_of_ble_eq_true rfl) hcel dL_law_196 (fun H locs hP hD hS => ?_)
      refine lv_iload hx hb dL_law_199 (lv_at hl 5 rfl) ?_
      refine lv_iload hx hb dL_law_201 (lv_at hl 4 rfl) ?_
      refine lv_isub (x := nI x) (y := nI k) hx hb dL_law_203 ?_
      refine lv_icmp_ne (x := (ru wr (ads sl) (nI x - nI k)) (ads sl)) (y := nI x - nI k) (tgt := 211) hx hb dL_law_204 (by decide) (fun c3 => ?_) (fun c3 => ?_)
      · exact absurd (ru_s wr (ads sl) _) c3
      · refine lv_iconst (v := nI 1) hx hb dL_law_207 (by decide) ?_
        refine lv_goto (tgt := 212) hx hb dL_law_208 (by decide) ?_
        refine lv_istore_n (lv' := [(3, .int (nI 1)), (0, .ref b), (1, .ref (ad 0)), (2, .ref qa), (4, .int (nI k)), (5, .int (nI x)), (6, .int (nI sl)), (7, .int (nI (x % 16))), (8, .int (cb_hi u)), (9, .int (cb_co u)), (10, .int (nI (cb_where (ads sl / 4) u)))]) hx hb dL_law_212 rfl hl (by decide) rfl (fun ls hl => ?_)
        refine lv_aload_n hx hb dL_law_213 rfl (lv_at hl 3 rfl) ?_
        refine lv_iload hx hb dL_law_214 (lv_at hl 6 rfl) ?_
        refine lv_iload hx hb dL_law_216 (lv_at hl 5 rfl) ?_
        refine lv_iload hx hb dL_law_218 (lv_at hl 4 rfl) ?_
        refine lv_isub (x := nI x) (y := nI k) hx hb dL_law_220 ?_
        refine mq_stR (k := sl) w (nI x - nI k) (ws' := wLw cyI cyZ ad qa (ru wr (ads sl) (nI x - nI k)) (if cb_dt u (ads sl / 4) = true then hm else cpy hm wr (ads sl / 4 * 4) (ads sl / 4 * 4 + 4)) (ru w sl (nI x - nI k)) (cb_acc (ads sl / 4) true u) cb_new (la_add (ads sl / 4) true la)) hx hb hK hP hD hS 14 0 (wL_q _ _ _ _ _ _ _ _ _ _) rfl (by omega) (Nat.le_of_ble_eq_true rfl) dL_law_221 (wL_set _ _ _ _ _ _ _ _ _ _ _) (fun H locs hP hD hS => ?_)
        refine lv_goto (tgt := 519) hx hb dL_law_222 (by decide) ?_
        exact t_tail (x := x) (sl := sl) hC0 kt hk hcel hsl (linv_write hinv hsl) (fun _ => acc_in _ _ _) hP hD hS (lv_sub hl [1, 2, 3, 0, 4, 6, 7] rfl)
set_option maxRecDepth 100000 in
set_option maxHeartbeats 4000000 in
theorem t_walk (hC : LC p s m args meth c D A cyI cyZ cyJ b L xs) (kt : KT p l e s m args below meth c Q D A cyI cyZ b ad qa cells slots (k + 1)) (hk : k < 150) (hcel : cells ≤ 152 ∧ slots ≤ 4085) (hx3 : x < 30000) (hsl : sl < 64) (hinv : LInv k wr w u la) (hwh : x % 16 = 12) (hP : va_P D vwCl (wLw cyI cyZ ad qa wr hm w u cb_new la) H) (hD : va_D A (wLw cyI cyZ ad qa wr hm w u cb_new la)) (hS : va_S A s.heap H locs) (hl : lv_has ls 13 (lvT b (ad 0) qa k x sl u)) : W p l e room_1 s m args below meth c H locs cells slots Q (F0 m 232 ls []) := by
  have hC0 := hC
  obtain ⟨hx, hb, hown, hts, hml, hK, hA, hX, hbl, hbA, hL⟩ := hC
  obtain ⟨hok, hla, hcf, hbd⟩ := linv_ok hinv
  have ha := ads_lt hsl
  have hw := hinv.2
  have hw3 := where_lt (ads sl / 4) u
  obtain ⟨nn, hnn⟩ : ∃ nn : Nat, 1 + x / 16 % 30 = nn := ⟨_, rfl⟩
  obtain ⟨z, hz⟩ : ∃ z : Int, ((x / 480 % 129 : Nat) : Int) - 64 = z := ⟨_, rfl⟩
  refine lv_iconst (v := nI 1) hx hb dL_law_232 (by decide) ?_
  refine lv_iload hx hb dL_law_233 (lv_at hl 5 rfl) ?_
  refine lv_bipush (v := nI 16) hx hb dL_law_235 (by decide) ?_
  refine mq_idiv (x := x) (y := 16) (by omega) (by omega) (by omega) hx hb dL_law_237 ?_
  refine lv_bipush (v := nI 30) hx hb dL_law_238 (by decide) ?_
  refine mq_irem (x := (x / 16)) (y := 30) (by omega) (by omega) (by omega) hx hb dL_law_240 ?_
  refine mq_iadd (x := 1) (y := ((x / 16) % 30)) hx hb dL_law_241 ?_
  rw [show nI (1 + ((x / 16) % 30)) = nI nn from (by rw [hnn])]
  refine lv_istore (lv' := [(11, .int (nI nn)), (0, .ref b), (1, .ref (ad 0)), (2, .ref qa), (3, .int (nI 1)), (4, .int (nI k)), (5, .int (nI x)), (6, .int (nI sl)), (7, .int (nI (x % 16))), (8, .int (cb_hi u)), (9, .int (cb_co u)), (10, .int (nI (cb_where (ads sl / 4) u)))]) hx hb dL_law_242 hl (by decide) rfl (fun ls hl => ?_)
  refine lv_aload_n hx hb dL_law_244 rfl (lv_at hl 2 rfl) ?_
  refine lv_iload hx hb dL_law_245 (lv_at hl 7 rfl) ?_
  refine CtI.callS (n := 1) (As := [.int (nI sl)]) (rest := [.ref (ad 0)]) (ws' := wLw cyI cyZ ad qa wr hm w u cb_new la) (c_address l D cyI cyZ cyJ sl hsl) ⟨hx, hb, hown, hts⟩ gL_law_L_address rfl ⟨by decide, by decide, by decide +kernel⟩ ⟨Nat.le_of_ble_eq_true rfl, Nat.le_of_ble_eq_true rfl⟩ ⟨rfl, rfl⟩ hml hl.1 hK hP hD hS hA (ctJ_0 (n := 15) (wLw_len _ _ _ _ _ _ _ _ _ _) rfl rfl) rfl rfl (Nat.le_of_ble_eq_true rfl) hcel dL_law_247 (fun H locs hP hD hS => ?_)
  refine lv_iload hx hb dL_law_250 (lv_at hl 6 rfl) ?_
  refine lv_sipush (v := nI 480) hx hb dL_law_252 (by decide) ?_
  refine mq_idiv (x := x) (y := 480) (by omega) (by omega) (by omega) hx hb dL_law_255 ?_
  refine lv_sipush (v := nI 129) hx hb dL_law_256 (by decide) ?_
  refine mq_irem (x := (x / 480)) (y := 129) (by omega) (by omega) (by omega) hx hb dL_law_259 ?_
  refine lv_bipush (v := nI 64) hx hb dL_law_260 (by decide) ?_
  refine lv_isub (x := nI ((x / 480) % 129)) (y := nI 64) hx hb dL_law_262 ?_
  rw [show ((nI ((x / 480) % 129)) - nI 64) = (Int32.ofInt z) from (by rw [sub64, hz])]
  refine lv_iload hx hb dL_law_263 (lv_at hl 0 rfl) ?_
  refine CtI.callV (n := 3) (q0 := 0) (ci := 2) (As := [.int (nI (ads sl)), .int (Int32.ofInt z), .int (nI nn)]) (rest := []) (ws' := wLw cyI cyZ ad qa wr hm w ((ob_walk (ads sl) z nn u la).1) cb_new ((ob_walk (ads sl) z nn u la).2)) (o_walk l D cyI cyZ cyJ ad wr hm u cb_new la (ads sl) z nn hbd hla ha (by omega) (by omega) (by omega) (by omega)) ⟨hx, hb, hown, hts⟩ gL_law_X2_walk rfl ⟨rfl, by decide, by decide, by decide +kernel⟩ ⟨Nat.le_of_ble_eq_true rfl, Nat.le_of_ble_eq_true rfl⟩ ⟨rfl, rfl⟩ hml hl.1 hK hP hD hS hA (ctJ_l (n := 14) (r := 1) (wOo_len _ _ _ _ _ _ _ _) rfl (wOo_len _ _ _ _ _ _ _ _) rfl rfl rfl rfl) (wOo_h _ _ _ _ _ _ _ _) ⟨rfl, rfl⟩ rfl rfl (Nat.le_of_ble_eq_true rfl) hcel dL_law_265 (fun H locs hP hD hS => ?_)
  refine lv_aload_n hx hb dL_law_268 rfl (lv_at hl 2 rfl) ?_
  refine CtI.callV (n := 0) (q0 := 0) (ci := 2) (As := []) (rest := [.int (cb_co (ob_walk (ads sl) z nn u la).1 - cb_co u)]) (ws' := wLw cyI cyZ ad qa wr hm w ((ob_walk (ads sl) z nn u la).1) cb_new ((ob_walk (ads sl) z nn u la).2)) (o_cost l D cyI cyZ cyJ ad wr hm ((ob_walk (ads sl) z nn u la).1) cb_new ((ob_walk (ads sl) z nn u la).2) ) ⟨hx, hb, hown, hts⟩ gL_law_X2_cost rfl ⟨rfl, by decide, by decide, by decide +kernel⟩ ⟨Nat.le_of_ble_eq_true rfl, Nat.le_of_ble_eq_true rfl⟩ ⟨rfl, rfl⟩ hml hl.1 hK hP hD hS hA (ctJ_l (n := 14) (r := 1) (wOo_len _ _ _ _ _ _ _ _) rfl (wOo_len _ _ _ _ _ _ _ _) rfl rfl rfl rfl) (wOo_h _ _ _ _ _ _ _ _) ⟨rfl, rfl⟩ rfl rfl (Nat.le_of_ble_eq_true rfl) hcel dL_law_269 (fun H locs hP hD hS => ?_)
  refine lv_iload hx hb dL_law_272 (lv_at hl 10 rfl) ?_
  refine lv_isub (x := cb_co ((ob_walk (ads sl) z nn u la).1)) (y := cb_co u) hx hb dL_law_274 ?_
  refine lv_icmp_ne (x := cb_co (ob_walk (ads sl) z nn u la).1 - cb_co u) (y := (cb_co ((ob_walk (ads sl) z nn u la).1)) - cb_co u) (tgt := 294) hx hb dL_law_275 (by decide) (fun c1 => ?_) (fun c1 => ?_)
  · exact absurd rfl c1
  · refine lv_aload_n hx hb dL_law_278 rfl (lv_at hl 2 rfl) ?_
    refine CtI.callV (n := 0) (q0 := 0) (ci := 2) (As := []) (rest := []) (ws' := wLw cyI cyZ ad qa wr hm w ((ob_walk (ads sl) z nn u la).1) cb_new ((ob_walk (ads sl) z nn u la).2)) (o_cost l D cyI cyZ cyJ ad wr hm ((ob_walk (ads sl) z nn u la).1) cb_new ((ob_walk (ads sl) z nn u la).2) ) ⟨hx, hb, hown, hts⟩ gL_law_X2_cost rfl ⟨rfl, by decide, by decide, by decide +kernel⟩ ⟨Nat.le_of_ble_eq_true rfl, Nat.le_of_ble_eq_true rfl⟩ ⟨rfl, rfl⟩ hml hl.1 hK hP hD hS hA (ctJ_l (n := 14) (r := 1) (wOo_len _ _ _ _ _ _ _ _) rfl (wOo_len _ _ _ _ _ _ _ _) rfl rfl rfl rfl) (wOo_h _ _ _ _ _ _ _ _) ⟨rfl, rfl⟩ rfl rfl (Nat.le_of_ble_eq_true rfl) hcel dL_law_279 (fun H locs hP hD hS => ?_)
    refine lv_iload hx hb dL_law_282 (lv_at hl 10 rfl) ?_
    refine lv_iload hx hb dL_law_284 (lv_at hl 0 rfl) ?_
    refine lv_iadd (x := cb_co u) (y := nI nn) hx hb dL_law_286 ?_
    refine lv_icmp_lt (x := cb_co ((ob_walk (ads sl) z nn u la).1)) (y := cb_co u + nI nn) (tgt := 294) hx hb dL_law_287 (by decide) (fun c2 => ?_) (fun c2 => ?_)
    · exact absurd c2 (walk_cost hinv (by omega) (by omega))
    · refine lv_iconst (v := nI 1) hx hb dL_law_290 (by decide) ?_
      refine lv_goto (tgt := 295) hx hb dL_law_291 (by decide) ?_
      refine lv_istore_n (lv' := [(3, .int (nI 1)), (11, .int (nI nn)), (0, .ref b), (1, .ref (ad 0)), (2, .ref qa), (4, .int (nI k)), (5, .int (nI x)), (6, .int (nI sl)), (7, .int (nI (x % 16))), (8, .int (cb_hi u)), (9, .int (cb_co u)), (10, .int (nI (cb_where (ads sl / 4) u)))]) hx hb dL_law_295 rfl hl (by decide) rfl (fun ls hl => ?_)
      refine lv_goto (tgt := 519) hx hb dL_law_296 (by decide) ?_
      exact t_tail (x := x) (sl := sl) hC0 kt hk hcel hsl (linv_walk hinv ha (by omega)) (fun h => absurd h (by omega)) hP hD hS (lv_sub hl [2, 3, 4, 0, 5, 7, 8] rfl)
set_option maxRecDepth 100000 in
set_option maxHeartbeats 4000000 in
theorem t_bring (hC : LC p s m args meth c D A cyI cyZ cyJ b L xs) (kt : KT p l e s m args below meth c Q D A cyI cyZ b ad qa cells slots (k + 1)) (hk : k < 150) (hcel : cells ≤ 152 ∧ slots ≤ 4085) (hx3 : x < 30000) (hsl : sl < 64) (hinv : LInv k wr w u la) (hwh : x % 16 = 13) (hP : va_P D vwCl (wLw cyI cyZ ad qa wr hm w u cb_new la) H) (hD : va_D A (wLw cyI cyZ ad qa wr hm w u cb_new la)) (hS : va_S A s.heap H locs) (hl : lv_has ls 13 (lvT b (ad 0) qa k x sl u)) : W p l e room_1 s m args below meth c H locs cells slots Q (F0 m 306 ls []) := by
  have hC0 := hC
  obtain ⟨hx, hb, hown, hts, hml, hK, hA, hX, hbl, hbA, hL⟩ := hC
  obtain ⟨hok, hla, hcf, hbd⟩ := linv_ok hinv
  have ha := ads_lt hsl
  have hw := hinv.2
  have hw3 := where_lt (ads sl / 4) u
  refine lv_aload_n hx hb dL_law_306 rfl (lv_at hl 1 rfl) ?_
  refine CtI.callV (n := 0) (q0 := 0) (ci := 2) (As := []) (rest := []) (ws' := wLw cyI cyZ ad qa wr hm w u cb_new la) (o_dirty l D cyI cyZ cyJ ad wr hm u cb_new la ) ⟨hx, hb, hown, hts⟩ gL_law_X2_dirty rfl ⟨rfl, by decide, by decide, by decide +kernel⟩ ⟨Nat.le_of_ble_eq_true rfl, Nat.le_of_ble_eq_true rfl⟩ ⟨rfl, rfl⟩ hml hl.1 hK hP hD hS hA (ctJ_l (n := 14) (r := 1) (wOo_len _ _ _ _ _ _ _ _) rfl (wOo_len _ _ _ _ _ _ _ _) rfl rfl rfl rfl) (wOo_h _ _ _ _ _ _ _ _) ⟨rfl, rfl⟩ rfl rfl (Nat.le_of_ble_eq_true rfl) hcel dL_law_307 (fun H locs hP hD hS => ?_)
  refine lv_istore (lv' := [(11, .int (nI (cb_dirty u))), (0, .ref b), (1, .ref (ad 0)), (2, .ref qa), (3, .int (nI 1)), (4, .int (nI k)), (5, .int (nI x)), (6, .int (nI sl)), (7, .int (nI (x % 16))), (8, .int (cb_hi u)), (9, .int (cb_co u)), (10, .int (nI (cb_where (ads sl / 4) u)))]) hx hb dL_law_310 hl (by decide) rfl (fun ls hl => ?_)
  refine lv_aload_n hx hb dL_law_312 rfl (lv_at hl 2 rfl) ?_
  refine CtI.callV (n := 0) (q0 := 0) (ci := 2) (As := []) (rest := []) (ws' := wLw cyI cyZ ad qa wr hm w (cb_bring u) cb_new la) (o_bringHome l D cyI cyZ cyJ ad wr hm u cb_new la hbd) ⟨hx, hb, hown, hts⟩ gL_law_X2_bringHome rfl ⟨rfl, by decide, by decide, by decide +kernel⟩ ⟨Nat.le_of_ble_eq_true rfl, Nat.le_of_ble_eq_true rfl⟩ ⟨rfl, rfl⟩ hml hl.1 hK hP hD hS hA (ctJ_l (n := 14) (r := 1) (wOo_len _ _ _ _ _ _ _ _) rfl (wOo_len _ _ _ _ _ _ _ _) rfl rfl rfl rfl) (wOo_h _ _ _ _ _ _ _ _) ⟨rfl, rfl⟩ rfl rfl (Nat.le_of_ble_eq_true rfl) hcel dL_law_313 (fun H locs hP hD hS => ?_)
  obtain ⟨hb1, hb2, hb3⟩ := bring_law hok
  refine lv_iload hx hb dL_law_316 (lv_at hl 0 rfl) ?_
  refine lv_icmp_ne (x := cb_hc (cb_bring u) - cb_hc u) (y := nI (cb_dirty u)) (tgt := 347) hx hb dL_law_318 (by decide) (fun c1 => ?_) (fun c1 => ?_)
  · exact absurd hb1 c1
  · refine lv_aload_n hx hb dL_law_321 rfl (lv_at hl 2 rfl) ?_
    refine CtI.callV (n := 0) (q0 := 0) (ci := 2) (As := []) (rest := []) (ws' := wLw cyI cyZ ad qa wr hm w (cb_bring u) cb_new la) (o_dirty l D cyI cyZ cyJ ad wr hm (cb_bring u) cb_new la ) ⟨hx, hb, hown, hts⟩ gL_law_X2_dirty rfl ⟨rfl, by decide, by decide, by decide +kernel⟩ ⟨Nat.le_of_ble_eq_true rfl, Nat.le_of_ble_eq_true rfl⟩ ⟨rfl, rfl⟩ hml hl.1 hK hP hD hS hA (ctJ_l (n := 14) (r := 1) (wOo_len _ _ _ _ _ _ _ _) rfl (wOo_len _ _ _ _ _ _ _ _) rfl rfl rfl rfl) (wOo_h _ _ _ _ _ _ _ _) ⟨rfl, rfl⟩ rfl rfl (Nat.le_of_ble_eq_true rfl) hcel dL_law_322 (fun H locs hP hD hS => ?_)
    refine mq_nz (x := (cb_dirty (cb_bring u))) (tgt := 347) (by omega) hx hb dL_law_325 (by decide) (fun c2 => ?_) (fun c2 => ?_)
    · exact absurd c2 (by omega)
    · refine lv_aload_n hx hb dL_law_328 rfl (lv_at hl 2 rfl) ?_
      refine CtI.callV (n := 0) (q0 := 0) (ci := 2) (As := []) (rest := []) (ws' := wLw cyI cyZ ad qa wr hm w (cb_bring u) cb_new la) (o_cost l D cyI cyZ cyJ ad wr hm (cb_bring u) cb_new la ) ⟨hx, hb, hown, hts⟩ gL_law_X2_cost rfl ⟨rfl, by decide, by decide, by decide +kernel⟩ ⟨Nat.le_of_ble_eq_true rfl, Nat.le_of_ble_eq_true rfl⟩ ⟨rfl, rfl⟩ hml hl.1 hK hP hD hS hA (ctJ_l (n := 14) (r := 1) (wOo_len _ _ _ _ _ _ _ _) rfl (wOo_len _ _ _ _ _ _ _ _) rfl rfl rfl rfl) (wOo_h _ _ _ _ _ _ _ _) ⟨rfl, rfl⟩ rfl rfl (Nat.le_of_ble_eq_true rfl) hcel dL_law_329 (fun H locs hP hD hS => ?_)
      refine lv_iload hx hb dL_law_332 (lv_at hl 10 rfl) ?_
      refine lv_bipush (v := nI 10) hx hb dL_law_334 (by decide) ?_
      refine lv_iload hx hb dL_law_336 (lv_at hl 0 rfl) ?_
      refine mq_imul (x := 10) (y := (cb_dirty u)) hx hb dL_law_338 ?_
      refine lv_iadd (x := cb_co u) (y := nI (10 * (cb_dirty u))) hx hb dL_law_339 ?_
      refine lv_icmp_ne (x := cb_co (cb_bring u)) (y := cb_co u + (nI (10 * (cb_dirty u)))) (tgt := 347) hx hb dL_law_340 (by decide) (fun c3 => ?_) (fun c3 => ?_)
      · exact absurd hb3 c3
      · refine lv_iconst (v := nI 1) hx hb dL_law_343 (by decide) ?_
        refine lv_goto (tgt := 348) hx hb dL_law_344 (by decide) ?_
        refine lv_istore_n (lv' := [(3, .int (nI 1)), (11, .int (nI (cb_dirty u))), (0, .ref b), (1, .ref (ad 0)), (2, .ref qa), (4, .int (nI k)), (5, .int (nI x)), (6, .int (nI sl)), (7, .int (nI (x % 16))), (8, .int (cb_hi u)), (9, .int (cb_co u)), (10, .int (nI (cb_where (ads sl / 4) u)))]) hx hb dL_law_348 rfl hl (by decide) rfl (fun ls hl => ?_)
        refine lv_goto (tgt := 519) hx hb dL_law_349 (by decide) ?_
        exact t_tail (x := x) (sl := sl) hC0 kt hk hcel hsl (linv_bring hinv) (fun h => absurd h (by omega)) hP hD hS (lv_sub hl [2, 3, 4, 0, 5, 7, 8] rfl)
set_option maxRecDepth 100000 in
set_option maxHeartbeats 4000000 in
theorem t_build (hC : LC p s m args meth c D A cyI cyZ cyJ b L xs) (kt : KT p l e s m args below meth c Q D A cyI cyZ b ad qa cells slots (k + 1)) (hk : k < 150) (hcel : cells ≤ 152 ∧ slots ≤ 4085) (hx3 : x < 30000) (hsl : sl < 64) (hinv : LInv k wr w u la) (hwh : x % 16 = 14) (hP : va_P D vwCl (wLw cyI cyZ ad qa wr hm w u cb_new la) H) (hD : va_D A (wLw cyI cyZ ad qa wr hm w u cb_new la)) (hS : va_S A s.heap H locs) (hl : lv_has ls 13 (lvT b (ad 0) qa k x sl u)) : W p l e room_1 s m args below meth c H locs cells slots Q (F0 m 366 ls []) := by
  have hC0 := hC
  obtain ⟨hx, hb, hown, hts, hml, hK, hA, hX, hbl, hbA, hL⟩ := hC
  obtain ⟨hok, hla, hcf, hbd⟩ := linv_ok hinv
  have ha := ads_lt hsl
  have hw := hinv.2
  have hw3 := where_lt (ads sl / 4) u
  obtain ⟨s', hs'⟩ : ∃ s' : Nat, 2 ^ (x / 16 % 5) = s' := ⟨_, rfl⟩
  obtain ⟨p', hp'⟩ : ∃ p' : Nat, x / 80 % 9 = p' := ⟨_, rfl⟩
  obtain ⟨hsh, hs5⟩ := shl5 (y := x / 16 % 5) (by omega)
  rw [hs'] at hsh hs5
  have hdl := dirty_le hok
  have hll := lines_le hok
  obtain ⟨hb1, hb2, hb3⟩ := bring_law hok
  refine lv_aload_n hx hb dL_law_366 rfl (lv_at hl 1 rfl) ?_
  refine CtI.callV (n := 0) (q0 := 0) (ci := 2) (As := []) (rest := []) (ws' := wLw cyI cyZ ad qa wr hm w u cb_new la) (o_dirty l D cyI cyZ cyJ ad wr hm u cb_new la ) ⟨hx, hb, hown, hts⟩ gL_law_X2_dirty rfl ⟨rfl, by decide, by decide, by decide +kernel⟩ ⟨Nat.le_of_ble_eq_true rfl, Nat.le_of_ble_eq_true rfl⟩ ⟨rfl, rfl⟩ hml hl.1 hK hP hD hS hA (ctJ_l (n := 14) (r := 1) (wOo_len _ _ _ _ _ _ _ _) rfl (wOo_len _ _ _ _ _ _ _ _) rfl rfl rfl rfl) (wOo_h _ _ _ _ _ _ _ _) ⟨rfl, rfl⟩ rfl rfl (Nat.le_of_ble_eq_true rfl) hcel dL_law_367 (fun H locs hP hD hS => ?_)
  refine lv_istore (lv' := [(11, .int (nI (cb_dirty u))), (0, .ref b), (1, .ref (ad 0)), (2, .ref qa), (3, .int (nI 1)), (4, .int (nI k)), (5, .int (nI x)), (6, .int (nI sl)), (7, .int (nI (x % 16))), (8, .int (cb_hi u)), (9, .int (cb_co u)), (10, .int (nI (cb_where (ads sl / 4) u)))]) hx hb dL_law_370 hl (by decide) rfl (fun ls hl => ?_)
  refine lv_aload_n hx hb dL_law_372 rfl (lv_at hl 2 rfl) ?_
  refine lv_iconst (v := nI 1) hx hb dL_law_373 (by decide) ?_
  refine lv_iload hx hb dL_law_374 (lv_at hl 6 rfl) ?_
  refine lv_bipush (v := nI 16) hx hb dL_law_376 (by decide) ?_
  refine mq_idiv (x := x) (y := 16) (by omega) (by omega) (by omega) hx hb dL_law_378 ?_
  refine lv_iconst (v := nI 5) hx hb dL_law_379 (by decide) ?_
  refine mq_irem (x := (x / 16)) (y := 5) (by omega) (by omega) (by omega) hx hb dL_law_380 ?_
  refine lv_ishl (x := nI 1) (y := nI ((x / 16) % 5)) hx hb dL_law_381 ?_
  rw [hsh]
  refine lv_iload hx hb dL_law_382 (lv_at hl 6 rfl) ?_
  refine lv_bipush (v := nI 80) hx hb dL_law_384 (by decide) ?_
  refine mq_idiv (x := x) (y := 80) (by omega) (by omega) (by omega) hx hb dL_law_386 ?_
  refine lv_bipush (v := nI 9) hx hb dL_law_387 (by decide) ?_
  refine mq_irem (x := (x / 80)) (y := 9) (by omega) (by omega) (by omega) hx hb dL_law_389 ?_
  rw [show nI ((x / 80) % 9) = nI p' from (by rw [hp'])]
  refine CtI.callV (n := 2) (q0 := 0) (ci := 2) (As := [.int (nI s'), .int (nI p')]) (rest := []) (ws' := wLw cyI cyZ ad qa wr hm w (cb_empty s' p' (cb_bring u)) cb_new la) (o_build l D cyI cyZ cyJ ad wr hm u cb_new la s' p' hbd hs5 (by omega)) ⟨hx, hb, hown, hts⟩ gL_law_X2_build rfl ⟨rfl, by decide, by decide, by decide +kernel⟩ ⟨Nat.le_of_ble_eq_true rfl, Nat.le_of_ble_eq_true rfl⟩ ⟨rfl, rfl⟩ hml hl.1 hK hP hD hS hA (ctJ_l (n := 14) (r := 1) (wOo_len _ _ _ _ _ _ _ _) rfl (wOo_len _ _ _ _ _ _ _ _) rfl rfl rfl rfl) (wOo_h _ _ _ _ _ _ _ _) ⟨rfl, rfl⟩ rfl rfl (Nat.le_of_ble_eq_true rfl) hcel dL_law_390 (fun H locs hP hD hS => ?_)
  refine lv_iload hx hb dL_law_393 (lv_at hl 0 rfl) ?_
  refine mq_lt (x := (cb_lines u)) (y := (cb_dirty u)) (tgt := 424) (by omega) (by omega) hx hb dL_law_395 (by decide) (fun c1 => ?_) (fun c1 => ?_)
  · exact absurd c1 (by omega)
  · refine lv_aload_n hx hb dL_law_398 rfl (lv_at hl 2 rfl) ?_
    refine CtI.callV (n := 0) (q0 := 0) (ci := 2) (As := []) (rest := []) (ws' := wLw cyI cyZ ad qa wr hm w (cb_empty s' p' (cb_bring u)) cb_new la) (o_cost l D cyI cyZ cyJ ad wr hm (cb_empty s' p' (cb_bring u)) cb_new la ) ⟨hx, hb, hown, hts⟩ gL_law_X2_cost rfl ⟨rfl, by decide, by decide, by decide +kernel⟩ ⟨Nat.le_of_ble_eq_true rfl, Nat.le_of_ble_eq_true rfl⟩ ⟨rfl, rfl⟩ hml hl.1 hK hP hD hS hA (ctJ_l (n := 14) (r := 1) (wOo_len _ _ _ _ _ _ _ _) rfl (wOo_len _ _ _ _ _ _ _ _) rfl rfl rfl rfl) (wOo_h _ _ _ _ _ _ _ _) ⟨rfl, rfl⟩ rfl rfl (Nat.le_of_ble_eq_true rfl) hcel dL_law_399 (fun H locs hP hD hS => ?_)
    refine lv_iload hx hb dL_law_402 (lv_at hl 10 rfl) ?_
    refine lv_bipush (v := nI 10) hx hb dL_law_404 (by decide) ?_
    refine lv_iload hx hb dL_law_406 (lv_at hl 0 rfl) ?_
    refine mq_imul (x := 10) (y := (cb_dirty u)) hx hb dL_law_408 ?_
    refine lv_iadd (x := cb_co u) (y := nI (10 * (cb_dirty u))) hx hb dL_law_409 ?_
    refine lv_icmp_ne (x := cb_co (cb_empty s' p' (cb_bring u))) (y := cb_co u + (nI (10 * (cb_dirty u)))) (tgt := 424) hx hb dL_law_410 (by decide) (fun c2 => ?_) (fun c2 => ?_)
    · exact absurd ((co_empty _ _ _).trans hb3) c2
    · refine lv_aload_n hx hb dL_law_413 rfl (lv_at hl 2 rfl) ?_
      refine CtI.callV (n := 0) (q0 := 0) (ci := 2) (As := []) (rest := []) (ws' := wLw cyI cyZ ad qa wr hm w (cb_empty s' p' (cb_bring u)) cb_new la) (o_sitting l D cyI cyZ cyJ ad wr hm (cb_empty s' p' (cb_bring u)) cb_new la ) ⟨hx, hb, hown, hts⟩ gL_law_X2_sitting rfl ⟨rfl, by decide, by decide, by decide +kernel⟩ ⟨Nat.le_of_ble_eq_true rfl, Nat.le_of_ble_eq_true rfl⟩ ⟨rfl, rfl⟩ hml hl.1 hK hP hD hS hA (ctJ_l (n := 14) (r := 1) (wOo_len _ _ _ _ _ _ _ _) rfl (wOo_len _ _ _ _ _ _ _ _) rfl rfl rfl rfl) (wOo_h _ _ _ _ _ _ _ _) ⟨rfl, rfl⟩ rfl rfl (Nat.le_of_ble_eq_true rfl) hcel dL_law_414 (fun H locs hP hD hS => ?_)
      refine mq_nz (x := ((cb_empty s' p' (cb_bring u)).2.2.2.2.1)) (tgt := 424) (by rw [n_empty]; omega) hx hb dL_law_417 (by decide) (fun c3 => ?_) (fun c3 => ?_)
      · exact absurd c3 (by rw [n_empty]; omega)
      · refine lv_iconst (v := nI 1) hx hb dL_law_420 (by decide) ?_
        refine lv_goto (tgt := 425) hx hb dL_law_421 (by decide) ?_
        refine lv_istore_n (lv' := [(3, .int (nI 1)), (11, .int (nI (cb_dirty u))), (0, .ref b), (1, .ref (ad 0)), (2, .ref qa), (4, .int (nI k)), (5, .int (nI x)), (6, .int (nI sl)), (7, .int (nI (x % 16))), (8, .int (cb_hi u)), (9, .int (cb_co u)), (10, .int (nI (cb_where (ads sl / 4) u)))]) hx hb dL_law_425 rfl hl (by decide) rfl (fun ls hl => ?_)
        refine lv_goto (tgt := 519) hx hb dL_law_426 (by decide) ?_
        exact t_tail (x := x) (sl := sl) hC0 kt hk hcel hsl (linv_build hinv hs5 (by omega)) (fun h => absurd h (by omega)) hP hD hS (lv_sub hl [2, 3, 4, 0, 5, 7, 8] rfl)
set_option maxRecDepth 100000 in
set_option maxHeartbeats 4000000 in
theorem t_cast (hC : LC p s m args meth c D A cyI cyZ cyJ b L xs) (kt : KT p l e s m args below meth c Q D A cyI cyZ b ad qa cells slots (k + 1)) (hk : k < 150) (hcel : cells ≤ 152 ∧ slots ≤ 4085) (hx3 : x < 30000) (hsl : sl < 64) (hinv : LInv k wr w u la) (hwh : 12 < x % 16) (hP : va_P D vwCl (wLw cyI cyZ ad qa wr hm w u cb_new la) H) (hD : va_D A (wLw cyI cyZ ad qa wr hm w u cb_new la)) (hS : va_S A s.heap H locs) (hl : lv_has ls 13 (lvT b (ad 0) qa k x sl u)) : W p l e room_1 s m args below meth c H locs cells slots Q (F0 m 429 ls []) := by
  have hC0 := hC
  obtain ⟨hx, hb, hown, hts, hml, hK, hA, hX, hbl, hbA, hL⟩ := hC
  obtain ⟨hok, hla, hcf, hbd⟩ := linv_ok hinv
  have ha := ads_lt hsl
  have hw := hinv.2
  have hw3 := where_lt (ads sl / 4) u
  obtain ⟨hs5, hpl8, hnp⟩ := ok_sizes hok
  have hst2 := Nat.mod_lt (x / 16) (show 0 < u.1 by omega)
  obtain ⟨st, hst⟩ : ∃ st : Nat, x / 16 % u.1 = st := ⟨_, rfl⟩
  rw [hst] at hst2
  refine lv_iload hx hb dL_law_429 (lv_at hl 5 rfl) ?_
  refine lv_bipush (v := nI 16) hx hb dL_law_431 (by decide) ?_
  refine mq_idiv (x := x) (y := 16) (by omega) (by omega) (by omega) hx hb dL_law_433 ?_
  refine lv_aload_n hx hb dL_law_434 rfl (lv_at hl 1 rfl) ?_
  refine CtI.callV (n := 0) (q0 := 0) (ci := 2) (As := []) (rest := [.int (nI (x / 16))]) (ws' := wLw cyI cyZ ad qa wr hm w u cb_new la) (o_sets l D cyI cyZ cyJ ad wr hm u cb_new la ) ⟨hx, hb, hown, hts⟩ gL_law_X2_sets rfl ⟨rfl, by decide, by decide, by decide +kernel⟩ ⟨Nat.le_of_ble_eq_true rfl, Nat.le_of_ble_eq_true rfl⟩ ⟨rfl, rfl⟩ hml hl.1 hK hP hD hS hA (ctJ_l (n := 14) (r := 1) (wOo_len _ _ _ _ _ _ _ _) rfl (wOo_len _ _ _ _ _ _ _ _) rfl rfl rfl rfl) (wOo_h _ _ _ _ _ _ _ _) ⟨rfl, rfl⟩ rfl rfl (Nat.le_of_ble_eq_true rfl) hcel dL_law_435 (fun H locs hP hD hS => ?_)
  refine mq_irem (x := (x / 16)) (y := u.1) (by omega) (by omega) (by omega) hx hb dL_law_438 ?_
  rw [show nI ((x / 16) % u.1) = nI st from (by rw [hst])]
  refine lv_istore (lv' := [(11, .int (nI st)), (0, .ref b), (1, .ref (ad 0)), (2, .ref qa), (3, .int (nI 1)), (4, .int (nI k)), (5, .int (nI x)), (6, .int (nI sl)), (7, .int (nI (x % 16))), (8, .int (cb_hi u)), (9, .int (cb_co u)), (10, .int (nI (cb_where (ads sl / 4) u)))]) hx hb dL_law_439 hl (by decide) rfl (fun ls hl => ?_)
  refine lv_aload_n hx hb dL_law_441 rfl (lv_at hl 2 rfl) ?_
  refine lv_iload hx hb dL_law_442 (lv_at hl 0 rfl) ?_
  refine CtI.callV (n := 1) (q0 := 0) (ci := 2) (As := [.int (nI st)]) (rest := []) (ws' := wLw cyI cyZ ad qa wr hm w u cb_new la) (o_lineIn l D cyI cyZ cyJ ad wr hm u cb_new la st hbd (by omega)) ⟨hx, hb, hown, hts⟩ gL_law_X2_lineIn rfl ⟨rfl, by decide, by decide, by decide +kernel⟩ ⟨Nat.le_of_ble_eq_true rfl, Nat.le_of_ble_eq_true rfl⟩ ⟨rfl, rfl⟩ hml hl.1 hK hP hD hS hA (ctJ_l (n := 14) (r := 1) (wOo_len _ _ _ _ _ _ _ _) rfl (wOo_len _ _ _ _ _ _ _ _) rfl rfl rfl rfl) (wOo_h _ _ _ _ _ _ _ _) ⟨rfl, rfl⟩ rfl rfl (Nat.le_of_ble_eq_true rfl) hcel dL_law_444 (fun H locs hP hD hS => ?_)
  rcases hln : cb_ln u st with _ | q
  · refine lv_istore (lv' := [(12, .int (-1)), (11, .int (nI st)), (0, .ref b), (1, .ref (ad 0)), (2, .ref qa), (3, .int (nI 1)), (4, .int (nI k)), (5, .int (nI x)), (6, .int (nI sl)), (7, .int (nI (x % 16))), (8, .int (cb_hi u)), (9, .int (cb_co u)), (10, .int (nI (cb_where (ads sl / 4) u)))]) hx hb dL_law_447 hl (by decide) rfl (fun ls hl => ?_)
    refine lv_iload hx hb dL_law_449 (lv_at hl 0 rfl) ?_
    refine lv_if_lt (x := -1) (tgt := 513) hx hb dL_law_451 (by decide) (fun c1 => ?_) (fun c1 => ?_)
    · refine lv_iconst (v := nI 1) hx hb dL_law_513 (by decide) ?_
      refine lv_goto (tgt := 518) hx hb dL_law_514 (by decide) ?_
      refine lv_istore_n (lv' := [(3, .int (nI 1)), (12, .int (-1)), (11, .int (nI st)), (0, .ref b), (1, .ref (ad 0)), (2, .ref qa), (4, .int (nI k)), (5, .int (nI x)), (6, .int (nI sl)), (7, .int (nI (x % 16))), (8, .int (cb_hi u)), (9, .int (cb_co u)), (10, .int (nI (cb_where (ads sl / 4) u)))]) hx hb dL_law_518 rfl hl (by decide) rfl (fun ls hl => ?_)
      exact t_tail (x := x) (sl := sl) hC0 kt hk hcel hsl (linv_same hinv) (fun h => absurd h (by omega)) hP hD hS (lv_sub hl [3, 4, 5, 0, 6, 8, 9] rfl)
    · exact absurd (by decide) c1
  · obtain ⟨hq1, hq2, hq3⟩ := ok_line hok hln
    obtain ⟨hcp, hcs⟩ := cast_pl st u
    have hok2 := ok_throw (s := st) hok
    have hbd2 := ok_of hok2
    refine lv_istore (lv' := [(12, .int (nI q)), (11, .int (nI st)), (0, .ref b), (1, .ref (ad 0)), (2, .ref qa), (3, .int (nI 1)), (4, .int (nI k)), (5, .int (nI x)), (6, .int (nI sl)), (7, .int (nI (x % 16))), (8, .int (cb_hi u)), (9, .int (cb_co u)), (10, .int (nI (cb_where (ads sl / 4) u)))]) hx hb dL_law_447 hl (by decide) rfl (fun ls hl => ?_)
    refine lv_iload hx hb dL_law_449 (lv_at hl 0 rfl) ?_
    refine lv_if_lt (x := nI q) (tgt := 513) hx hb dL_law_451 (by decide) (fun c1 => ?_) (fun c1 => ?_)
    · exact absurd c1 (nI_pos (by omega))
    · refine lv_aload_n hx hb dL_law_454 rfl (lv_at hl 3 rfl) ?_
      refine lv_iload hx hb dL_law_455 (lv_at hl 1 rfl) ?_
      refine CtI.callV (n := 1) (q0 := 0) (ci := 2) (As := [.int (nI st)]) (rest := []) (ws' := wLw cyI cyZ ad qa wr hm w (cb_throw st u) cb_new la) (o_cast l D cyI cyZ cyJ ad wr hm u cb_new la st q hbd hst2 hln) ⟨hx, hb, hown, hts⟩ gL_law_X2_cast rfl ⟨rfl, by decide, by decide, by decide +kernel⟩ ⟨Nat.le_of_ble_eq_true rfl, Nat.le_of_ble_eq_true rfl⟩ ⟨rfl, rfl⟩ hml hl.1 hK hP hD hS hA (ctJ_l (n := 14) (r := 1) (wOo_len _ _ _ _ _ _ _ _) rfl (wOo_len _ _ _ _ _ _ _ _) rfl rfl rfl rfl) (wOo_h _ _ _ _ _ _ _ _) ⟨rfl, rfl⟩ rfl rfl (Nat.le_of_ble_eq_true rfl) hcel dL_law_457 (fun H locs hP hD hS => ?_)
      refine lv_iload hx hb dL_law_460 (lv_at hl 0 rfl) ?_
      refine mq_ne (x := q) (y := q) (tgt := 517) (by omega) (by omega) hx hb dL_law_462 (by decide) (fun c2 => ?_) (fun c2 => ?_)
      · exact absurd rfl c2
      · refine lv_aload_n hx hb dL_law_465 rfl (lv_at hl 3 rfl) ?_
        refine lv_iload hx hb dL_law_466 (lv_at hl 1 rfl) ?_
        refine CtI.callV (n := 1) (q0 := 0) (ci := 2) (As := [.int (nI st)]) (rest := []) (ws' := wLw cyI cyZ ad qa wr hm w (cb_throw st u) cb_new la) (o_lineIn l D cyI cyZ cyJ ad wr hm (cb_throw st u) cb_new la st hbd2 (by omega)) ⟨hx, hb, hown, hts⟩ gL_law_X2_lineIn rfl ⟨rfl, by decide, by decide, by decide +kernel⟩ ⟨Nat.le_of_ble_eq_true rfl, Nat.le_of_ble_eq_true rfl⟩ ⟨rfl, rfl⟩ hml hl.1 hK hP hD hS hA (ctJ_l (n := 14) (r := 1) (wOo_len _ _ _ _ _ _ _ _) rfl (wOo_len _ _ _ _ _ _ _ _) rfl rfl rfl rfl) (wOo_h _ _ _ _ _ _ _ _) ⟨rfl, rfl⟩ rfl rfl (Nat.le_of_ble_eq_true rfl) hcel dL_law_468 (fun H locs hP hD hS => ?_)
        rw [show oI (cb_ln (cb_throw st u) st) = (-1) from (by rw [(throw_ln st u).1]; rfl)]
        refine lv_iconst (v := -1) hx hb dL_law_471 (by decide) ?_
        refine lv_icmp_ne (x := -1) (y := -1) (tgt := 517) hx hb dL_law_472 (by decide) (fun c3 => ?_) (fun c3 => ?_)
        · exact absurd rfl c3
        · refine lv_aload_n hx hb dL_law_475 rfl (lv_at hl 3 rfl) ?_
          refine lv_iload hx hb dL_law_476 (lv_at hl 0 rfl) ?_
          refine CtI.callV (n := 1) (q0 := 0) (ci := 2) (As := [.int (nI q)]) (rest := []) (ws' := wLw cyI cyZ ad qa wr hm w (cb_throw st u) cb_new la) (o_placeOf l D cyI cyZ cyJ ad wr hm (cb_throw st u) cb_new la q hbd2 (by omega)) ⟨hx, hb, hown, hts⟩ gL_law_X2_placeOf rfl ⟨rfl, by decide, by decide, by decide +kernel⟩ ⟨Nat.le_of_ble_eq_true rfl, Nat.le_of_ble_eq_true rfl⟩ ⟨rfl, rfl⟩ hml hl.1 hK hP hD hS hA (ctJ_l (n := 14) (r := 1) (wOo_len _ _ _ _ _ _ _ _) rfl (wOo_len _ _ _ _ _ _ _ _) rfl rfl rfl rfl) (wOo_h _ _ _ _ _ _ _ _) ⟨rfl, rfl⟩ rfl rfl (Nat.le_of_ble_eq_true rfl) hcel dL_law_478 (fun H locs hP hD hS => ?_)
          refine lv_aload_n hx hb dL_law_481 rfl (lv_at hl 3 rfl) ?_
          refine CtI.callV (n := 0) (q0 := 0) (ci := 2) (As := []) (rest := [.int (nI (cb_where q (cb_throw st u)))]) (ws' := wLw cyI cyZ ad qa wr hm w (cb_throw st u) cb_new la) (o_places l D cyI cyZ cyJ ad wr hm (cb_throw st u) cb_new la ) ⟨hx, hb, hown, hts⟩ gL_law_X2_places rfl ⟨rfl, by decide, by decide, by decide +kernel⟩ ⟨Nat.le_of_ble_eq_true rfl, Nat.le_of_ble_eq_true rfl⟩ ⟨rfl, rfl⟩ hml hl.1 hK hP hD hS hA (ctJ_l (n := 14) (r := 1) (wOo_len _ _ _ _ _ _ _ _) rfl (wOo_len _ _ _ _ _ _ _ _) rfl rfl rfl rfl) (wOo_h _ _ _ _ _ _ _ _) ⟨rfl, rfl⟩ rfl rfl (Nat.le_of_ble_eq_true rfl) hcel dL_law_482 (fun H locs hP hD hS => ?_)
          refine mq_nz (x := ((cb_throw st u).2.1)) (tgt := 492) (by omega) hx hb dL_law_485 (by decide) (fun c4 => ?_) (fun c4 => ?_)
          · refine lv_iconst (v := nI 2) hx hb dL_law_492 (by decide) ?_
            refine mq_ne (x := (cb_where q (cb_throw st u))) (y := 2) (tgt := 517) (by have := where_lt q (cb_throw st u); omega) (by omega) hx hb dL_law_493 (by decide) (fun c5 => ?_) (fun c5 => ?_)
            · exact absurd (cast_2 hok hln (by omega)) c5
            · refine lv_aload_n hx hb dL_law_496 rfl (lv_at hl 3 rfl) ?_
              refine CtI.callV (n := 0) (q0 := 0) (ci := 2) (As := []) (rest := []) (ws' := wLw cyI cyZ ad qa wr hm w (cb_throw st u) cb_new la) (o_places l D cyI cyZ cyJ ad wr hm (cb_throw st u) cb_new la ) ⟨hx, hb, hown, hts⟩ gL_law_X2_places rfl ⟨rfl, by decide, by decide, by decide +kernel⟩ ⟨Nat.le_of_ble_eq_true rfl, Nat.le_of_ble_eq_true rfl⟩ ⟨rfl, rfl⟩ hml hl.1 hK hP hD hS hA (ctJ_l (n := 14) (r := 1) (wOo_len _ _ _ _ _ _ _ _) rfl (wOo_len _ _ _ _ _ _ _ _) rfl rfl rfl rfl) (wOo_h _ _ _ _ _ _ _ _) ⟨rfl, rfl⟩ rfl rfl (Nat.le_of_ble_eq_true rfl) hcel dL_law_497 (fun H locs hP hD hS => ?_)
              refine mq_z (x := ((cb_throw st u).2.1)) (tgt := 513) (by omega) hx hb dL_law_500 (by decide) (fun c6 => ?_) (fun c6 => ?_)
              · refine lv_iconst (v := nI 1) hx hb dL_law_513 (by decide) ?_
                refine lv_goto (tgt := 518) hx hb dL_law_514 (by decide) ?_
                refine lv_istore_n (lv' := [(3, .int (nI 1)), (12, .int (nI q)), (11, .int (nI st)), (0, .ref b), (1, .ref (ad 0)), (2, .ref qa), (4, .int (nI k)), (5, .int (nI x)), (6, .int (nI sl)), (7, .int (nI (x % 16))), (8, .int (cb_hi u)), (9, .int (cb_co u)), (10, .int (nI (cb_where (ads sl / 4) u)))]) hx hb dL_law_518 rfl hl (by decide) rfl (fun ls hl => ?_)
                exact t_tail (x := x) (sl := sl) hC0 kt hk hcel hsl (linv_cast hinv) (fun h => absurd h (by omega)) hP hD hS (lv_sub hl [3, 4, 5, 0, 6, 8, 9] rfl)
              · refine lv_aload_n hx hb dL_law_503 rfl (lv_at hl 3 rfl) ?_
                refine lv_iconst (v := nI 0) hx hb dL_law_504 (by decide) ?_
                refine CtI.callV (n := 1) (q0 := 0) (ci := 2) (As := [.int (nI 0)]) (rest := []) (ws' := wLw cyI cyZ ad qa wr hm w (cb_throw st u) cb_new la) (o_lineOnBench l D cyI cyZ cyJ ad wr hm (cb_throw st u) cb_new la 0 hbd2 (cast_1 hln (by omega)).1) ⟨hx, hb, hown, hts⟩ gL_law_X2_lineOnBench rfl ⟨rfl, by decide, by decide, by decide +kernel⟩ ⟨Nat.le_of_ble_eq_true rfl, Nat.le_of_ble_eq_true rfl⟩ ⟨rfl, rfl⟩ hml hl.1 hK hP hD hS hA (ctJ_l (n := 14) (r := 1) (wOo_len _ _ _ _ _ _ _ _) rfl (wOo_len _ _ _ _ _ _ _ _) rfl rfl rfl rfl) (wOo_h _ _ _ _ _ _ _ _) ⟨rfl, rfl⟩ rfl rfl (Nat.le_of_ble_eq_true rfl) hcel dL_law_505 (fun H locs hP hD hS => ?_)
                refine lv_iload hx hb dL_law_508 (lv_at hl 0 rfl) ?_
                refine mq_ne (x := ((cb_throw st u).2.2.2.1 ((cb_throw st u).2.2.2.2.1 - 1 - 0))) (y := q) (tgt := 517) (by rw [(cast_1 hln (by omega)).2]; omega) (by omega) hx hb dL_law_510 (by decide) (fun c7 => ?_) (fun c7 => ?_)
                · exact absurd (cast_1 hln (by omega)).2 c7
                · refine lv_iconst (v := nI 1) hx hb dL_law_513 (by decide) ?_
                  refine lv_goto (tgt := 518) hx hb dL_law_514 (by decide) ?_
                  refine lv_istore_n (lv' := [(3, .int (nI 1)), (12, .int (nI q)), (11, .int (nI st)), (0, .ref b), (1, .ref (ad 0)), (2, .ref qa), (4, .int (nI k)), (5, .int (nI x)), (6, .int (nI sl)), (7, .int (nI (x % 16))), (8, .int (cb_hi u)), (9, .int (cb_co u)), (10, .int (nI (cb_where (ads sl / 4) u)))]) hx hb dL_law_518 rfl hl (by decide) rfl (fun ls hl => ?_)
                  exact t_tail (x := x) (sl := sl) hC0 kt hk hcel hsl (linv_cast hinv) (fun h => absurd h (by omega)) hP hD hS (lv_sub hl [3, 4, 5, 0, 6, 8, 9] rfl)
          · refine lv_iconst (v := nI 0) hx hb dL_law_488 (by decide) ?_
            refine lv_goto (tgt := 493) hx hb dL_law_489 (by decide) ?_
            refine mq_ne (x := (cb_where q (cb_throw st u))) (y := 0) (tgt := 517) (by have := where_lt q (cb_throw st u); omega) (by omega) hx hb dL_law_493 (by decide) (fun c5 => ?_) (fun c5 => ?_)
            · exact absurd (cast_0 hok hln (by omega)) c5
            · refine lv_aload_n hx hb dL_law_496 rfl (lv_at hl 3 rfl) ?_
              refine CtI.callV (n := 0) (q0 := 0) (ci := 2) (As := []) (rest := []) (ws' := wLw cyI cyZ ad qa wr hm w (cb_throw st u) cb_new la) (o_places l D cyI cyZ cyJ ad wr hm (cb_throw st u) cb_new la ) ⟨hx, hb, hown, hts⟩ gL_law_X2_places rfl ⟨rfl, by decide, by decide, by decide +kernel⟩ ⟨Nat.le_of_ble_eq_true rfl, Nat.le_of_ble_eq_true rfl⟩ ⟨rfl, rfl⟩ hml hl.1 hK hP hD hS hA (ctJ_l (n := 14) (r := 1) (wOo_len _ _ _ _ _ _ _ _) rfl (wOo_len _ _ _ _ _ _ _ _) rfl rfl rfl rfl) (wOo_h _ _ _ _ _ _ _ _) ⟨rfl, rfl⟩ rfl rfl (Nat.le_of_ble_eq_true rfl) hcel dL_law_497 (fun H locs hP hD hS => ?_)
              refine mq_z (x := ((cb_throw st u).2.1)) (tgt := 513) (by omega) hx hb dL_law_500 (by decide) (fun c6 => ?_) (fun c6 => ?_)
              · refine lv_iconst (v := nI 1) hx hb dL_law_513 (by decide) ?_
                refine lv_goto (tgt := 518) hx hb dL_law_514 (by decide) ?_
                refine lv_istore_n (lv' := [(3, .int (nI 1)), (12, .int (nI q)), (11, .int (nI st)), (0, .ref b), (1, .ref (ad 0)), (2, .ref qa), (4, .int (nI k)), (5, .int (nI x)), (6, .int (nI sl)), (7, .int (nI (x % 16))), (8, .int (cb_hi u)), (9, .int (cb_co u)), (10, .int (nI (cb_where (ads sl / 4) u)))]) hx hb dL_law_518 rfl hl (by decide) rfl (fun ls hl => ?_)
                exact t_tail (x := x) (sl := sl) hC0 kt hk hcel hsl (linv_cast hinv) (fun h => absurd h (by omega)) hP hD hS (lv_sub hl [3, 4, 5, 0, 6, 8, 9] rfl)
              · refine lv_aload_n hx hb dL_law_503 rfl (lv_at hl 3 rfl) ?_
                refine lv_iconst (v := nI 0) hx hb dL_law_504 (by decide) ?_
                refine CtI.callV (n := 1) (q0 := 0) (ci := 2) (As := [.int (nI 0)]) (rest := []) (ws' := wLw cyI cyZ ad qa wr hm w (cb_throw st u) cb_new la) (o_lineOnBench l D cyI cyZ cyJ ad wr hm (cb_throw st u) cb_new la 0 hbd2 (cast_1 hln (by omega)).1) ⟨hx, hb, hown, hts⟩ gL_law_X2_lineOnBench rfl ⟨rfl, by decide, by decide, by decide +kernel⟩ ⟨Nat.le_of_ble_eq_true rfl, Nat.le_of_ble_eq_true rfl⟩ ⟨rfl, rfl⟩ hml hl.1 hK hP hD hS hA (ctJ_l (n := 14) (r := 1) (wOo_len _ _ _ _ _ _ _ _) rfl (wOo_len _ _ _ _ _ _ _ _) rfl rfl rfl rfl) (wOo_h _ _ _ _ _ _ _ _) ⟨rfl, rfl⟩ rfl rfl (Nat.le_of_ble_eq_true rfl) hcel dL_law_505 (fun H locs hP hD hS => ?_)
                refine lv_iload hx hb dL_law_508 (lv_at hl 0 rfl) ?_
                refine mq_ne (x := ((cb_throw st u).2.2.2.1 ((cb_throw st u).2.2.2.2.1 - 1 - 0))) (y := q) (tgt := 517) (by rw [(cast_1 hln (by omega)).2]; omega) (by omega) hx hb dL_law_510 (by decide) (fun c7 => ?_) (fun c7 => ?_)
                · exact absurd (cast_1 hln (by omega)).2 c7
                · refine lv_iconst (v := nI 1) hx hb dL_law_513 (by decide) ?_
                  refine lv_goto (tgt := 518) hx hb dL_law_514 (by decide) ?_
                  refine lv_istore_n (lv' := [(3, .int (nI 1)), (12, .int (nI q)), (11, .int (nI st)), (0, .ref b), (1, .ref (ad 0)), (2, .ref qa), (4, .int (nI k)), (5, .int (nI x)), (6, .int (nI sl)), (7, .int (nI (x % 16))), (8, .int (cb_hi u)), (9, .int (cb_co u)), (10, .int (nI (cb_where (ads sl / 4) u)))]) hx hb dL_law_518 rfl hl (by decide) rfl (fun ls hl => ?_)
                  exact t_tail (x := x) (sl := sl) hC0 kt hk hcel hsl (linv_cast hinv) (fun h => absurd h (by omega)) hP hD hS (lv_sub hl [3, 4, 5, 0, 6, 8, 9] rfl)
end

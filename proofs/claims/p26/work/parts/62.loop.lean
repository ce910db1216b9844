/-! a turn of the law, its loop, its end -/
section
variable {p : Program} {l : Launch} {e : Env} {s : State} {m : MethodId} {args : Array Value} {below : List Frame} {meth : Method} {c : Code} {H : Heap} {locs : List Loc} {cells slots : Nat} {Q : State → Prop}
variable {ls : Array Slot} {D : va_G} {A : Nat → Prop} {cyI cyZ cyJ : ClassId} {b L : Nat} {xs : Nat → Int32} {ad : Nat → Nat} {qa k x sl : Nat}
variable {wr hm w : Nat → Int32} {u tr : CBu} {la : LAu}
set_option maxRecDepth 100000 in
set_option maxHeartbeats 4000000 in
theorem t_disp (hC : LC p s m args meth c D A cyI cyZ cyJ b L xs) (kt : KT p l e s m args below meth c Q D A cyI cyZ b ad qa cells slots (k + 1)) (hk : k < 150) (hcel : cells ≤ 152 ∧ slots ≤ 4085) (hx3 : x < 30000) (hsl : sl < 64) (hinv : LInv k wr w u la) (hP : va_P D vwCl (wLw cyI cyZ ad qa wr hm w u cb_new la) H) (hD : va_D A (wLw cyI cyZ ad qa wr hm w u cb_new la)) (hS : va_S A s.heap H locs) (hl : lv_has ls 13 (lvT b (ad 0) qa k x sl u)) : W p l e room_1 s m args below meth c H locs cells slots Q (F0 m 95 ls []) := by
  have hC0 := hC
  obtain ⟨hx, hb, hown, hts, hml, hK, hA, hX, hbl, hbA, hL⟩ := hC
  refine lv_iload hx hb dL_law_95 (lv_at hl 7 rfl) ?_
  refine lv_bipush (v := nI 7) hx hb dL_law_97 (by decide) ?_
  refine mq_ge (x := (x % 16)) (y := 7) (tgt := 148) (by omega) (by omega) hx hb dL_law_99 (by decide) (fun c1 => ?_) (fun c1 => ?_)
  · refine lv_iload hx hb dL_law_148 (lv_at hl 7 rfl) ?_
    refine lv_bipush (v := nI 12) hx hb dL_law_150 (by decide) ?_
    refine mq_ge (x := (x % 16)) (y := 12) (tgt := 225) (by omega) (by omega) hx hb dL_law_152 (by decide) (fun c2 => ?_) (fun c2 => ?_)
    · refine lv_iload hx hb dL_law_225 (lv_at hl 7 rfl) ?_
      refine lv_bipush (v := nI 12) hx hb dL_law_227 (by decide) ?_
      refine mq_ne (x := (x % 16)) (y := 12) (tgt := 299) (by omega) (by omega) hx hb dL_law_229 (by decide) (fun c3 => ?_) (fun c3 => ?_)
      · refine lv_iload hx hb dL_law_299 (lv_at hl 7 rfl) ?_
        refine lv_bipush (v := nI 13) hx hb dL_law_301 (by decide) ?_
        refine mq_ne (x := (x % 16)) (y := 13) (tgt := 352) (by omega) (by omega) hx hb dL_law_303 (by decide) (fun c4 => ?_) (fun c4 => ?_)
        · refine lv_iload hx hb dL_law_352 (lv_at hl 7 rfl) ?_
          refine lv_bipush (v := nI 14) hx hb dL_law_354 (by decide) ?_
          refine mq_ne (x := (x % 16)) (y := 14) (tgt := 429) (by omega) (by omega) hx hb dL_law_356 (by decide) (fun c5 => ?_) (fun c5 => ?_)
          · exact t_cast (x := x) (sl := sl) hC0 kt hk hcel hx3 hsl hinv (by omega) hP hD hS hl
          · refine lv_iload hx hb dL_law_359 (lv_at hl 5 rfl) ?_
            refine lv_iconst (v := nI 5) hx hb dL_law_361 (by decide) ?_
            refine mq_irem (x := x) (y := 5) (by omega) (by omega) (by omega) hx hb dL_law_362 ?_
            refine mq_nz (x := (x % 5)) (tgt := 429) (by omega) hx hb dL_law_363 (by decide) (fun c6 => ?_) (fun c6 => ?_)
            · exact t_cast (x := x) (sl := sl) hC0 kt hk hcel hx3 hsl hinv (by omega) hP hD hS hl
            · exact t_build (x := x) (sl := sl) hC0 kt hk hcel hx3 hsl hinv c5 hP hD hS hl
        · exact t_bring (x := x) (sl := sl) hC0 kt hk hcel hx3 hsl hinv c4 hP hD hS hl
      · exact t_walk (x := x) (sl := sl) hC0 kt hk hcel hx3 hsl hinv c3 hP hD hS hl
    · exact t_write (x := x) (sl := sl) hC0 kt hk hcel hx3 hsl hinv hP hD hS hl
  · exact t_read (x := x) (sl := sl) hC0 kt hk hcel hx3 hsl hinv hP hD hS hl
set_option maxRecDepth 100000 in
set_option maxHeartbeats 4000000 in
theorem t_mid (hC : LC p s m args meth c D A cyI cyZ cyJ b L xs) (kt : KT p l e s m args below meth c Q D A cyI cyZ b ad qa cells slots (k + 1)) (hk : k < 150) (hcel : cells ≤ 152 ∧ slots ≤ 4085) (hx3 : x < 30000) (hsl : sl < 64) (hinv : LInv k wr w u la) (hP : va_P D vwCl (wLw cyI cyZ ad qa wr hm w u cb_new la) H) (hD : va_D A (wLw cyI cyZ ad qa wr hm w u cb_new la)) (hS : va_S A s.heap H locs) (hl : lv_has ls 13 ([(0, .ref b), (1, .ref (ad 0)), (2, .ref qa), (3, .int (nI 1)), (4, .int (nI k)), (5, .int (nI x))])) : W p l e room_1 s m args below meth c H locs cells slots Q (F0 m 61 ls [.int (nI sl)]) := by
  have hC0 := hC
  obtain ⟨hx, hb, hown, hts, hml, hK, hA, hX, hbl, hbA, hL⟩ := hC
  obtain ⟨hok, hla, hcf, hbd⟩ := linv_ok hinv
  have ha := ads_lt hsl
  refine lv_istore (lv' := [(6, .int (nI sl)), (0, .ref b), (1, .ref (ad 0)), (2, .ref qa), (3, .int (nI 1)), (4, .int (nI k)), (5, .int (nI x))]) hx hb dL_law_61 hl (by decide) rfl (fun ls hl => ?_)
  refine lv_iload hx hb dL_law_63 (lv_at hl 6 rfl) ?_
  refine lv_bipush (v := nI 16) hx hb dL_law_65 (by decide) ?_
  refine mq_irem (x := x) (y := 16) (by omega) (by omega) (by omega) hx hb dL_law_67 ?_
  refine lv_istore (lv' := [(7, .int (nI (x % 16))), (6, .int (nI sl)), (0, .ref b), (1, .ref (ad 0)), (2, .ref qa), (3, .int (nI 1)), (4, .int (nI k)), (5, .int (nI x))]) hx hb dL_law_68 hl (by decide) rfl (fun ls hl => ?_)
  refine lv_aload_n hx hb dL_law_70 rfl (lv_at hl 3 rfl) ?_
  refine CtI.callV (n := 0) (q0 := 0) (ci := 2) (As := []) (rest := []) (ws' := wLw cyI cyZ ad qa wr hm w u cb_new la) (o_hits l D cyI cyZ cyJ ad wr hm u cb_new la ) ⟨hx, hb, hown, hts⟩ gL_law_X2_hits rfl ⟨rfl, by decide, by decide, by decide +kernel⟩ ⟨Nat.le_of_ble_eq_true rfl, Nat.le_of_ble_eq_true rfl⟩ ⟨rfl, rfl⟩ hml hl.1 hK hP hD hS hA (ctJ_l (n := 14) (r := 1) (wOo_len _ _ _ _ _ _ _ _) rfl (wOo_len _ _ _ _ _ _ _ _) rfl rfl rfl rfl) (wOo_h _ _ _ _ _ _ _ _) ⟨rfl, rfl⟩ rfl rfl (Nat.le_of_ble_eq_true rfl) hcel dL_law_71 (fun H locs hP hD hS => ?_)
  refine lv_istore (lv' := [(8, .int (cb_hi u)), (7, .int (nI (x % 16))), (6, .int (nI sl)), (0, .ref b), (1, .ref (ad 0)), (2, .ref qa), (3, .int (nI 1)), (4, .int (nI k)), (5, .int (nI x))]) hx hb dL_law_74 hl (by decide) rfl (fun ls hl => ?_)
  refine lv_aload_n hx hb dL_law_76 rfl (lv_at hl 4 rfl) ?_
  refine CtI.callV (n := 0) (q0 := 0) (ci := 2) (As := []) (rest := []) (ws' := wLw cyI cyZ ad qa wr hm w u cb_new la) (o_cost l D cyI cyZ cyJ ad wr hm u cb_new la ) ⟨hx, hb, hown, hts⟩ gL_law_X2_cost rfl ⟨rfl, by decide, by decide, by decide +kernel⟩ ⟨Nat.le_of_ble_eq_true rfl, Nat.le_of_ble_eq_true rfl⟩ ⟨rfl, rfl⟩ hml hl.1 hK hP hD hS hA (ctJ_l (n := 14) (r := 1) (wOo_len _ _ _ _ _ _ _ _) rfl (wOo_len _ _ _ _ _ _ _ _) rfl rfl rfl rfl) (wOo_h _ _ _ _ _ _ _ _) ⟨rfl, rfl⟩ rfl rfl (Nat.le_of_ble_eq_true rfl) hcel dL_law_77 (fun H locs hP hD hS => ?_)
  refine lv_istore (lv' := [(9, .int (cb_co u)), (8, .int (cb_hi u)), (7, .int (nI (x % 16))), (6, .int (nI sl)), (0, .ref b), (1, .ref (ad 0)), (2, .ref qa), (3, .int (nI 1)), (4, .int (nI k)), (5, .int (nI x))]) hx hb dL_law_80 hl (by decide) rfl (fun ls hl => ?_)
  refine lv_aload_n hx hb dL_law_82 rfl (lv_at hl 5 rfl) ?_
  refine lv_iload hx hb dL_law_83 (lv_at hl 3 rfl) ?_
  refine CtI.callS (n := 1) (As := [.int (nI sl)]) (rest := [.ref (ad 0)]) (ws' := wLw cyI cyZ ad qa wr hm w u cb_new la) (c_address l D cyI cyZ cyJ sl hsl) ⟨hx, hb, hown, hts⟩ gL_law_L_address rfl ⟨by decide, by decide, by decide +kernel⟩ ⟨Nat.le_of_ble_eq_true rfl, Nat.le_of_ble_eq_true rfl⟩ ⟨rfl, rfl⟩ hml hl.1 hK hP hD hS hA (ctJ_0 (n := 15) (wLw_len _ _ _ _ _ _ _ _ _ _) rfl rfl) rfl rfl (Nat.le_of_ble_eq_true rfl) hcel dL_law_85 (fun H locs hP hD hS => ?_)
  refine lv_iconst (v := nI 4) hx hb dL_law_88 (by decide) ?_
  refine mq_idiv (x := (ads sl)) (y := 4) (by omega) (by omega) (by omega) hx hb dL_law_89 ?_
  refine CtI.callV (n := 1) (q0 := 0) (ci := 2) (As := [.int (nI ((ads sl) / 4))]) (rest := []) (ws' := wLw cyI cyZ ad qa wr hm w u cb_new la) (o_placeOf l D cyI cyZ cyJ ad wr hm u cb_new la ((ads sl) / 4) hbd (by omega)) ⟨hx, hb, hown, hts⟩ gL_law_X2_placeOf rfl ⟨rfl, by decide, by decide, by decide +kernel⟩ ⟨Nat.le_of_ble_eq_true rfl, Nat.le_of_ble_eq_true rfl⟩ ⟨rfl, rfl⟩ hml hl.1 hK hP hD hS hA (ctJ_l (n := 14) (r := 1) (wOo_len _ _ _ _ _ _ _ _) rfl (wOo_len _ _ _ _ _ _ _ _) rfl rfl rfl rfl) (wOo_h _ _ _ _ _ _ _ _) ⟨rfl, rfl⟩ rfl rfl (Nat.le_of_ble_eq_true rfl) hcel dL_law_90 (fun H locs hP hD hS => ?_)
  refine lv_istore (lv' := [(10, .int (nI (cb_where ((ads sl) / 4) u))), (9, .int (cb_co u)), (8, .int (cb_hi u)), (7, .int (nI (x % 16))), (6, .int (nI sl)), (0, .ref b), (1, .ref (ad 0)), (2, .ref qa), (3, .int (nI 1)), (4, .int (nI k)), (5, .int (nI x))]) hx hb dL_law_93 hl (by decide) rfl (fun ls hl => ?_)
  exact t_disp (x := x) (sl := sl) hC0 kt hk hcel hx3 hsl hinv hP hD hS (lv_sub hl [5, 6, 7, 8, 9, 10, 4, 3, 2, 1, 0] rfl)
set_option maxRecDepth 100000 in
set_option maxHeartbeats 4000000 in
theorem t_turn (hC : LC p s m args meth c D A cyI cyZ cyJ b L xs) (kt : KT p l e s m args below meth c Q D A cyI cyZ b ad qa cells slots (k + 1)) (hk : k < 150) (hcel : cells ≤ 152 ∧ slots ≤ 4085) (hinv : LInv k wr w u la) (hP : va_P D vwCl (wLw cyI cyZ ad qa wr hm w u cb_new la) H) (hD : va_D A (wLw cyI cyZ ad qa wr hm w u cb_new la)) (hS : va_S A s.heap H locs) (hl : lv_has ls 13 (lvH b (ad 0) qa k)) : W p l e room_1 s m args below meth c H locs cells slots Q (F0 m 18 ls []) := by
  have hC0 := hC
  obtain ⟨hx, hb, hown, hts, hml, hK, hA, hX, hbl, hbA, hL⟩ := hC
  refine lv_iload hx hb dL_law_18 (lv_at hl 4 rfl) ?_
  refine lv_sipush (v := nI 150) hx hb dL_law_20 (by decide) ?_
  refine mq_ge (x := k) (y := 150) (tgt := 572) (by omega) (by omega) hx hb dL_law_23 (by decide) (fun c1 => ?_) (fun c1 => ?_)
  · exact absurd hk (by omega)
  · refine lv_iload_n hx hb dL_law_26 rfl (lv_at hl 3 rfl) ?_
    refine mq_z (x := 1) (tgt := 572) (by omega) hx hb dL_law_27 (by decide) (fun c2 => ?_) (fun c2 => ?_)
    · exact absurd c2 (by decide)
    · refine lv_aload_n hx hb dL_law_30 rfl (lv_at hl 0 rfl) ?_
      refine lv_iload hx hb dL_law_31 (lv_at hl 4 rfl) ?_
      refine lv_sipush (v := nI 30000) hx hb dL_law_33 (by decide) ?_
      refine CtK.callS (n := 3) (As := [.ref b, .int (nI k), .int (nI 30000)]) (rest := []) (c_drawn l D cyI cyZ cyJ b L xs k 30000 (by omega) (by omega) (by omega) (by omega)) tapeN_b (fun U hU hW => tapeN_goes hX hbl hbA hS hU hW) ⟨hx, hb, hown, hts⟩ gL_law_L_drawn rfl ⟨by decide, by decide, by decide +kernel⟩ ⟨Nat.le_of_ble_eq_true rfl, Nat.le_of_ble_eq_true rfl⟩ ⟨rfl, rfl⟩ hml hl.1 hK hP hD hS hA (ctJ_0 (n := 15) (wLw_len _ _ _ _ _ _ _ _ _ _) rfl rfl) rfl rfl (Nat.le_of_ble_eq_true rfl) hcel dL_law_36 (fun H locs hP hD hS => ?_)
      have hx3 := Nat.mod_lt (half (drw xs L k)) (show 0 < 30000 by omega)
      obtain ⟨x, hx0⟩ : ∃ x : Nat, half (drw xs L k) % 30000 = x := ⟨_, rfl⟩
      rw [hx0] at hx3 ⊢
      refine lv_istore (lv' := [(5, .int (nI x)), (0, .ref b), (1, .ref (ad 0)), (2, .ref qa), (3, .int (nI 1)), (4, .int (nI k))]) hx hb dL_law_39 hl (by decide) rfl (fun ls hl => ?_)
      refine lv_iload hx hb dL_law_41 (lv_at hl 0 rfl) ?_
      refine lv_bipush (v := nI 16) hx hb dL_law_43 (by decide) ?_
      refine mq_idiv (x := x) (y := 16) (by omega) (by omega) (by omega) hx hb dL_law_45 ?_
      refine lv_iload hx hb dL_law_46 (lv_at hl 0 rfl) ?_
      refine lv_iconst (v := nI 2) hx hb dL_law_48 (by decide) ?_
      refine mq_irem (x := x) (y := 2) (by omega) (by omega) (by omega) hx hb dL_law_49 ?_
      refine mq_nz (x := (x % 2)) (tgt := 58) (by omega) hx hb dL_law_50 (by decide) (fun c3 => ?_) (fun c3 => ?_)
      · refine lv_bipush (v := nI 11) hx hb dL_law_58 (by decide) ?_
        refine mq_irem (x := (x / 16)) (y := 11) (by omega) (by omega) (by omega) hx hb dL_law_60 ?_
        exact t_mid (x := x) (sl := x / 16 % 11) hC0 kt hk hcel hx3 (by omega) hinv hP hD hS (lv_sub hl [1, 2, 3, 4, 5, 0] rfl)
      · refine lv_bipush (v := nI 64) hx hb dL_law_53 (by decide) ?_
        refine lv_goto (tgt := 60) hx hb dL_law_55 (by decide) ?_
        refine mq_irem (x := (x / 16)) (y := 64) (by omega) (by omega) (by omega) hx hb dL_law_60 ?_
        exact t_mid (x := x) (sl := x / 16 % 64) hC0 kt hk hcel hx3 (by omega) hinv hP hD hS (lv_sub hl [1, 2, 3, 4, 5, 0] rfl)
set_option maxRecDepth 100000 in
set_option maxHeartbeats 4000000 in
theorem t_exit (hC : LC p s m args meth c D A cyI cyZ cyJ b L xs) (hcel : cells ≤ 152 ∧ slots ≤ 4085) (hend : ∀ (H : Heap) (locs : List Loc) (ls : Array Slot), va_S A s.heap H locs → W p l e room_1 s m args below meth c H locs cells slots Q (F0 m 713 ls [.int (nI 1)])) (hinv : LInv 150 wr w u la) (hP : va_P D vwCl (wLw cyI cyZ ad qa wr hm w u cb_new la) H) (hD : va_D A (wLw cyI cyZ ad qa wr hm w u cb_new la)) (hS : va_S A s.heap H locs) (hl : lv_has ls 13 (lvH b (ad 0) qa 150)) : W p l e room_1 s m args below meth c H locs cells slots Q (F0 m 18 ls []) := by
  have hC0 := hC
  obtain ⟨hx, hb, hown, hts, hml, hK, hA, hX, hbl, hbA, hL⟩ := hC
  obtain ⟨hok, hla, hcf, hbd⟩ := linv_ok hinv
  obtain ⟨⟨-, -, -, co, aa, -, -, hcn, hal, hla2⟩, hw⟩ := hinv
  refine lv_iload hx hb dL_law_18 (lv_at hl 4 rfl) ?_
  refine lv_sipush (v := nI 150) hx hb dL_law_20 (by decide) ?_
  refine mq_ge (x := 150) (y := 150) (tgt := 572) (by omega) (by omega) hx hb dL_law_23 (by decide) (fun c00 => ?_) (fun c00 => ?_)
  · refine lv_iconst (v := nI 0) hx hb dL_law_572 (by decide) ?_
    refine lv_istore (lv' := [(4, .int (nI 0)), (0, .ref b), (1, .ref (ad 0)), (2, .ref qa), (3, .int (nI 1))]) hx hb dL_law_573 hl (by decide) rfl (fun ls hl => ?_)
    have LPx : ∀ (fu : Nat) (j : Nat) (H : Heap) (locs : List Loc) (ls : Array Slot), (j ≤ 64) → 64 - j < fu → va_P D vwCl (wLw cyI cyZ ad qa wr hm w u cb_new la) H → va_D A (wLw cyI cyZ ad qa wr hm w u cb_new la) → va_S A s.heap H locs → lv_has ls 13 [(0, .ref b), (1, .ref (ad 0)), (2, .ref qa), (3, .int (nI 1)), (4, .int (nI j))] → W p l e room_1 s m args below meth c H locs cells slots Q (F0 m 575 ls []) := by
      intro fu
      induction fu with
      | zero =>
        intro j H locs ls hj hfu
        exact absurd hfu (Nat.not_lt_zero _)
      | succ fu ihx =>
        intro j H locs ls hj hfux hP hD hS hl
        refine lv_iload hx hb dL_law_575 (lv_at hl 4 rfl) ?_
        refine lv_bipush (v := nI 64) hx hb dL_law_577 (by decide) ?_
        refine mq_ge (x := j) (y := 64) (tgt := 614) (by omega) (by omega) hx hb dL_law_579 (by decide) (fun c0 => ?_) (fun c0 => ?_)
        · obtain ⟨hb1, hb2, hb3⟩ := bring_law hok
          obtain ⟨-, -, -, hok2, hcl⟩ := bring_all hok rfl
          have hbd2 := ok_of hok2
          obtain ⟨hs5, hpl8, hnp⟩ := ok_sizes hok2
          refine lv_aload_n hx hb dL_law_614 rfl (lv_at hl 1 rfl) ?_
          refine CtI.callV (n := 0) (q0 := 0) (ci := 2) (As := []) (rest := []) (ws' := wLw cyI cyZ ad qa wr hm w u cb_new la) (o_hits l D cyI cyZ cyJ ad wr hm u cb_new la ) ⟨hx, hb, hown, hts⟩ gL_law_X2_hits rfl ⟨rfl, by decide, by decide, by decide +kernel⟩ ⟨Nat.le_of_ble_eq_true rfl, Nat.le_of_ble_eq_true rfl⟩ ⟨rfl, rfl⟩ hml hl.1 hK hP hD hS hA (ctJ_l (n := 14) (r := 1) (wOo_len _ _ _ _ _ _ _ _) rfl (wOo_len _ _ _ _ _ _ _ _) rfl rfl rfl rfl) (wOo_h _ _ _ _ _ _ _ _) ⟨rfl, rfl⟩ rfl rfl (Nat.le_of_ble_eq_true rfl) hcel dL_law_615 (fun H locs hP hD hS => ?_)
          refine lv_aload_n hx hb dL_law_618 rfl (lv_at hl 1 rfl) ?_
          refine CtI.callV (n := 0) (q0 := 0) (ci := 2) (As := []) (rest := [.int (cb_hi u)]) (ws' := wLw cyI cyZ ad qa wr hm w u cb_new la) (o_swaps l D cyI cyZ cyJ ad wr hm u cb_new la ) ⟨hx, hb, hown, hts⟩ gL_law_X2_swaps rfl ⟨rfl, by decide, by decide, by decide +kernel⟩ ⟨Nat.le_of_ble_eq_true rfl, Nat.le_of_ble_eq_true rfl⟩ ⟨rfl, rfl⟩ hml hl.1 hK hP hD hS hA (ctJ_l (n := 14) (r := 1) (wOo_len _ _ _ _ _ _ _ _) rfl (wOo_len _ _ _ _ _ _ _ _) rfl rfl rfl rfl) (wOo_h _ _ _ _ _ _ _ _) ⟨rfl, rfl⟩ rfl rfl (Nat.le_of_ble_eq_true rfl) hcel dL_law_619 (fun H locs hP hD hS => ?_)
          refine lv_iadd (x := cb_hi u) (y := cb_sw u) hx hb dL_law_622 ?_
          refine lv_aload_n hx hb dL_law_623 rfl (lv_at hl 1 rfl) ?_
          refine CtI.callV (n := 0) (q0 := 0) (ci := 2) (As := []) (rest := [.int (cb_hi u + cb_sw u)]) (ws' := wLw cyI cyZ ad qa wr hm w u cb_new la) (o_misses l D cyI cyZ cyJ ad wr hm u cb_new la ) ⟨hx, hb, hown, hts⟩ gL_law_X2_misses rfl ⟨rfl, by decide, by decide, by decide +kernel⟩ ⟨Nat.le_of_ble_eq_true rfl, Nat.le_of_ble_eq_true rfl⟩ ⟨rfl, rfl⟩ hml hl.1 hK hP hD hS hA (ctJ_l (n := 14) (r := 1) (wOo_len _ _ _ _ _ _ _ _) rfl (wOo_len _ _ _ _ _ _ _ _) rfl rfl rfl rfl) (wOo_h _ _ _ _ _ _ _ _) ⟨rfl, rfl⟩ rfl rfl (Nat.le_of_ble_eq_true rfl) hcel dL_law_624 (fun H locs hP hD hS => ?_)
          refine lv_iadd (x := cb_hi u + cb_sw u) (y := cb_mi u) hx hb dL_law_627 ?_
          rw [show (cb_hi u + cb_sw u + cb_mi u) = nI aa from hcn]
          refine lv_istore (lv' := [(4, .int (nI aa)), (0, .ref b), (1, .ref (ad 0)), (2, .ref qa), (3, .int (nI 1))]) hx hb dL_law_628 hl (by decide) rfl (fun ls hl => ?_)
          refine lv_iload_n hx hb dL_law_630 rfl (lv_at hl 4 rfl) ?_
          refine mq_z (x := 1) (tgt := 712) (by omega) hx hb dL_law_631 (by decide) (fun c3 => ?_) (fun c3 => ?_)
          · exact absurd c3 (by decide)
          · refine lv_aload_n hx hb dL_law_634 rfl (lv_at hl 2 rfl) ?_
            refine CtI.callS (n := 1) (As := [.ref (ad 0)]) (rest := []) (ws' := wLw cyI cyZ ad qa wr hm w u cb_new la) (o_isInOrder l D cyI cyZ cyJ ad wr hm u cb_new la hok hcf) ⟨hx, hb, hown, hts⟩ gL_law_L_isInOrder rfl ⟨by decide, by decide, by decide +kernel⟩ ⟨Nat.le_of_ble_eq_true rfl, Nat.le_of_ble_eq_true rfl⟩ ⟨rfl, rfl⟩ hml hl.1 hK hP hD hS hA (ctJ_l (n := 14) (r := 1) (wOo_len _ _ _ _ _ _ _ _) rfl (wOo_len _ _ _ _ _ _ _ _) rfl rfl rfl rfl) rfl rfl (Nat.le_of_ble_eq_true rfl) hcel dL_law_635 (fun H locs hP hD hS => ?_)
            refine mq_z (x := 1) (tgt := 712) (by omega) hx hb dL_law_638 (by decide) (fun c4 => ?_) (fun c4 => ?_)
            · exact absurd c4 (by decide)
            · refine lv_aload_n hx hb dL_law_641 rfl (lv_at hl 2 rfl) ?_
              refine CtI.callV (n := 0) (q0 := 0) (ci := 2) (As := []) (rest := []) (ws' := wLw cyI cyZ ad qa wr hm w (cb_bring u) cb_new la) (o_bringHome l D cyI cyZ cyJ ad wr hm u cb_new la hbd) ⟨hx, hb, hown, hts⟩ gL_law_X2_bringHome rfl ⟨rfl, by decide, by decide, by decide +kernel⟩ ⟨Nat.le_of_ble_eq_true rfl, Nat.le_of_ble_eq_true rfl⟩ ⟨rfl, rfl⟩ hml hl.1 hK hP hD hS hA (ctJ_l (n := 14) (r := 1) (wOo_len _ _ _ _ _ _ _ _) rfl (wOo_len _ _ _ _ _ _ _ _) rfl rfl rfl rfl) (wOo_h _ _ _ _ _ _ _ _) ⟨rfl, rfl⟩ rfl rfl (Nat.le_of_ble_eq_true rfl) hcel dL_law_642 (fun H locs hP hD hS => ?_)
              rw [show (cb_hc (cb_bring u) - cb_hc u) = nI (cb_dirty u) from hb1]
              have ha9 := ads_lt (show 9 < 64 by omega)
              refine lv_if_lt (x := nI (cb_dirty u)) (tgt := 712) hx hb dL_law_645 (by decide) (fun c5 => ?_) (fun c5 => ?_)
              · exact absurd c5 (nI_pos (by have := dirty_256 u; omega))
              · refine lv_aload_n hx hb dL_law_648 rfl (lv_at hl 2 rfl) ?_
                refine lv_bipush (v := nI 9) hx hb dL_law_649 (by decide) ?_
                refine CtI.callS (n := 1) (As := [.int (nI 9)]) (rest := [.ref (ad 0)]) (ws' := wLw cyI cyZ ad qa wr hm w (cb_bring u) cb_new la) (c_address l D cyI cyZ cyJ 9 (by omega)) ⟨hx, hb, hown, hts⟩ gL_law_L_address rfl ⟨by decide, by decide, by decide +kernel⟩ ⟨Nat.le_of_ble_eq_true rfl, Nat.le_of_ble_eq_true rfl⟩ ⟨rfl, rfl⟩ hml hl.1 hK hP hD hS hA (ctJ_0 (n := 15) (wLw_len _ _ _ _ _ _ _ _ _ _) rfl rfl) rfl rfl (Nat.le_of_ble_eq_true rfl) hcel dL_law_651 (fun H locs hP hD hS => ?_)
                refine CtI.callV (n := 1) (q0 := 0) (ci := 2) (As := [.int (nI (ads 9))]) (rest := []) (ws' := wLw cyI cyZ ad qa wr hm w (cb_bring u) cb_new la) (o_atHome l D cyI cyZ cyJ ad wr hm (cb_bring u) cb_new la (ads 9) (ads_lt (by omega))) ⟨hx, hb, hown, hts⟩ gL_law_X2_atHome rfl ⟨rfl, by decide, by decide, by decide +kernel⟩ ⟨Nat.le_of_ble_eq_true rfl, Nat.le_of_ble_eq_true rfl⟩ ⟨rfl, rfl⟩ hml hl.1 hK hP hD hS hA (ctJ_l (n := 14) (r := 1) (wOo_len _ _ _ _ _ _ _ _) rfl (wOo_len _ _ _ _ _ _ _ _) rfl rfl rfl rfl) (wOo_h _ _ _ _ _ _ _ _) ⟨rfl, rfl⟩ rfl rfl (Nat.le_of_ble_eq_true rfl) hcel dL_law_654 (fun H locs hP hD hS => ?_)
                rw [show (if cb_dt (cb_bring u) ((ads 9) / 4) = true then hm (ads 9) else wr (ads 9)) = (wr (ads 9)) from (by rw [if_neg (by rw [hcl (ads 9 / 4) (by omega)]; exact Bool.false_ne_true)])]
                refine lv_aload_n hx hb dL_law_657 rfl (lv_at hl 3 rfl) ?_
                refine lv_bipush (v := nI 9) hx hb dL_law_658 (by decide) ?_
                refine mq_ldR (k := 9) w hx hb hK hP 14 0 (wL_q _ _ _ _ _ _ _ _ _ _) rfl (by omega) (Nat.le_of_ble_eq_true rfl) dL_law_660 ?_
                refine lv_icmp_ne (x := wr (ads 9)) (y := w 9) (tgt := 712) hx hb dL_law_661 (by decide) (fun c6 => ?_) (fun c6 => ?_)
                · exact absurd (hw 9 (by omega)).symm c6
                · refine lv_aload_n hx hb dL_law_664 rfl (lv_at hl 2 rfl) ?_
                  refine lv_aload_n hx hb dL_law_665 rfl (lv_at hl 2 rfl) ?_
                  refine CtI.callV (n := 0) (q0 := 0) (ci := 2) (As := []) (rest := [.ref (ad 0)]) (ws' := wLw cyI cyZ ad qa wr hm w (cb_bring u) cb_new la) (o_sets l D cyI cyZ cyJ ad wr hm (cb_bring u) cb_new la ) ⟨hx, hb, hown, hts⟩ gL_law_X2_sets rfl ⟨rfl, by decide, by decide, by decide +kernel⟩ ⟨Nat.le_of_ble_eq_true rfl, Nat.le_of_ble_eq_true rfl⟩ ⟨rfl, rfl⟩ hml hl.1 hK hP hD hS hA (ctJ_l (n := 14) (r := 1) (wOo_len _ _ _ _ _ _ _ _) rfl (wOo_len _ _ _ _ _ _ _ _) rfl rfl rfl rfl) (wOo_h _ _ _ _ _ _ _ _) ⟨rfl, rfl⟩ rfl rfl (Nat.le_of_ble_eq_true rfl) hcel dL_law_666 (fun H locs hP hD hS => ?_)
                  refine lv_aload_n hx hb dL_law_669 rfl (lv_at hl 2 rfl) ?_
                  refine CtI.callV (n := 0) (q0 := 0) (ci := 2) (As := []) (rest := [.int (nI ((cb_bring u).1)), .ref (ad 0)]) (ws' := wLw cyI cyZ ad qa wr hm w (cb_bring u) cb_new la) (o_places l D cyI cyZ cyJ ad wr hm (cb_bring u) cb_new la ) ⟨hx, hb, hown, hts⟩ gL_law_X2_places rfl ⟨rfl, by decide, by decide, by decide +kernel⟩ ⟨Nat.le_of_ble_eq_true rfl, Nat.le_of_ble_eq_true rfl⟩ ⟨rfl, rfl⟩ hml hl.1 hK hP hD hS hA (ctJ_l (n := 14) (r := 1) (wOo_len _ _ _ _ _ _ _ _) rfl (wOo_len _ _ _ _ _ _ _ _) rfl rfl rfl rfl) (wOo_h _ _ _ _ _ _ _ _) ⟨rfl, rfl⟩ rfl rfl (Nat.le_of_ble_eq_true rfl) hcel dL_law_670 (fun H locs hP hD hS => ?_)
                  refine CtI.callV (n := 2) (q0 := 0) (ci := 2) (As := [.int (nI ((cb_bring u).1)), .int (nI ((cb_bring u).2.1))]) (rest := []) (ws' := wLw cyI cyZ ad qa wr hm w (cb_bring u) (la_trial la (cb_bring u).1 (cb_bring u).2.1 cb_new) la) (o_wouldCost l D cyI cyZ cyJ ad wr hm (cb_bring u) cb_new la (cb_bring u).1 (cb_bring u).2.1 hla hs5 hpl8) ⟨hx, hb, hown, hts⟩ gL_law_X2_wouldCost rfl ⟨rfl, by decide, by decide, by decide +kernel⟩ ⟨Nat.le_of_ble_eq_true rfl, Nat.le_of_ble_eq_true rfl⟩ ⟨rfl, rfl⟩ hml hl.1 hK hP hD hS hA (ctJ_l (n := 14) (r := 1) (wOo_len _ _ _ _ _ _ _ _) rfl (wOo_len _ _ _ _ _ _ _ _) rfl rfl rfl rfl) (wOo_h _ _ _ _ _ _ _ _) ⟨rfl, rfl⟩ rfl rfl (Nat.le_of_ble_eq_true rfl) hcel dL_law_673 (fun H locs hP hD hS => ?_)
                  obtain ⟨dd, hd1, hd2, hd3⟩ := co_trial la (cb_bring u).1 (cb_bring u).2.1 cb_new
                  have hlc2 := hla2
                  rw [show (cb_co (la_trial la (cb_bring u).1 (cb_bring u).2.1 cb_new) - cb_co cb_new) = nI dd from hd3]
                  obtain ⟨t1, ht1⟩ : ∃ t1 : CBu, la_trial la (cb_bring u).1 (cb_bring u).2.1 cb_new = t1 := ⟨_, rfl⟩
                  rw [ht1] at hP hD
                  refine lv_iload hx hb dL_law_676 (lv_at hl 0 rfl) ?_
                  refine lv_sipush (v := nI 150) hx hb dL_law_678 (by decide) ?_
                  refine mq_ge (x := aa) (y := 150) (tgt := 689) (by omega) (by omega) hx hb dL_law_681 (by decide) (fun c7 => ?_) (fun c7 => ?_)
                  · refine lv_sipush (v := nI 150) hx hb dL_law_689 (by decide) ?_
                    refine mq_lt (x := dd) (y := 150) (tgt := 712) (by omega) (by omega) hx hb dL_law_692 (by decide) (fun c8 => ?_) (fun c8 => ?_)
                    · exact absurd c8 (by omega)
                    · refine lv_aload_n hx hb dL_law_695 rfl (lv_at hl 2 rfl) ?_
                      refine lv_bipush (v := nI 16) hx hb dL_law_696 (by decide) ?_
                      refine lv_aload_n hx hb dL_law_698 rfl (lv_at hl 2 rfl) ?_
                      refine CtI.callV (n := 0) (q0 := 0) (ci := 2) (As := []) (rest := [.int (nI 16), .ref (ad 0)]) (ws' := wLw cyI cyZ ad qa wr hm w (cb_bring u) ((la_best la (cb_bring u).1 8 t1).2.2) la) (o_bestPlaces l D cyI cyZ cyJ ad wr hm (cb_bring u) t1 la hbd2 hla) ⟨hx, hb, hown, hts⟩ gL_law_X2_bestPlaces rfl ⟨rfl, by decide, by decide, by decide +kernel⟩ ⟨Nat.le_of_ble_eq_true rfl, Nat.le_of_ble_eq_true rfl⟩ ⟨rfl, rfl⟩ hml hl.1 hK hP hD hS hA (ctJ_l (n := 14) (r := 1) (wOo_len _ _ _ _ _ _ _ _) rfl (wOo_len _ _ _ _ _ _ _ _) rfl rfl rfl rfl) (wOo_h _ _ _ _ _ _ _ _) ⟨rfl, rfl⟩ rfl rfl (Nat.le_of_ble_eq_true rfl) hcel dL_law_699 (fun H locs hP hD hS => ?_)
                      have hbl := best_le la (cb_bring u).1 t1 8
                      obtain ⟨bb, hbb⟩ : ∃ bb : Nat × Int32 × CBu, la_best la (cb_bring u).1 8 t1 = bb := ⟨_, rfl⟩
                      rw [hbb] at hbl hP hD ⊢
                      refine CtI.callV (n := 2) (q0 := 0) (ci := 2) (As := [.int (nI 16), .int (nI bb.1)]) (rest := []) (ws' := wLw cyI cyZ ad qa wr hm w (cb_bring u) (la_trial la 16 bb.1 bb.2.2) la) (o_wouldCost l D cyI cyZ cyJ ad wr hm (cb_bring u) bb.2.2 la 16 bb.1 hla (by decide) hbl) ⟨hx, hb, hown, hts⟩ gL_law_X2_wouldCost rfl ⟨rfl, by decide, by decide, by decide +kernel⟩ ⟨Nat.le_of_ble_eq_true rfl, Nat.le_of_ble_eq_true rfl⟩ ⟨rfl, rfl⟩ hml hl.1 hK hP hD hS hA (ctJ_l (n := 14) (r := 1) (wOo_len _ _ _ _ _ _ _ _) rfl (wOo_len _ _ _ _ _ _ _ _) rfl rfl rfl rfl) (wOo_h _ _ _ _ _ _ _ _) ⟨rfl, rfl⟩ rfl rfl (Nat.le_of_ble_eq_true rfl) hcel dL_law_702 (fun H locs hP hD hS => ?_)
                      obtain ⟨d2, hd4, hd5, hd6⟩ := co_trial la 16 bb.1 bb.2.2
                      rw [show (cb_co (la_trial la 16 bb.1 bb.2.2) - cb_co bb.2.2) = nI d2 from hd6]
                      refine lv_if_lt (x := nI d2) (tgt := 712) hx hb dL_law_705 (by decide) (fun c9 => ?_) (fun c9 => ?_)
                      · exact absurd c9 (nI_pos (by omega))
                      · refine lv_iconst (v := nI 1) hx hb dL_law_708 (by decide) ?_
                        refine lv_goto (tgt := 713) hx hb dL_law_709 (by decide) ?_
                        exact hend _ _ _ hS
                  · refine lv_iload hx hb dL_law_684 (lv_at hl 0 rfl) ?_
                    refine lv_goto (tgt := 692) hx hb dL_law_686 (by decide) ?_
                    refine mq_lt (x := dd) (y := aa) (tgt := 712) (by omega) (by omega) hx hb dL_law_692 (by decide) (fun c8 => ?_) (fun c8 => ?_)
                    · exact absurd c8 (by omega)
                    · refine lv_aload_n hx hb dL_law_695 rfl (lv_at hl 2 rfl) ?_
                      refine lv_bipush (v := nI 16) hx hb dL_law_696 (by decide) ?_
                      refine lv_aload_n hx hb dL_law_698 rfl (lv_at hl 2 rfl) ?_
                      refine CtI.callV (n := 0) (q0 := 0) (ci := 2) (As := []) (rest := [.int (nI 16), .ref (ad 0)]) (ws' := wLw cyI cyZ ad qa wr hm w (cb_bring u) ((la_best la (cb_bring u).1 8 t1).2.2) la) (o_bestPlaces l D cyI cyZ cyJ ad wr hm (cb_bring u) t1 la hbd2 hla) ⟨hx, hb, hown, hts⟩ gL_law_X2_bestPlaces rfl ⟨rfl, by decide, by decide, by decide +kernel⟩ ⟨Nat.le_of_ble_eq_true rfl, Nat.le_of_ble_eq_true rfl⟩ ⟨rfl, rfl⟩ hml hl.1 hK hP hD hS hA (ctJ_l (n := 14) (r := 1) (wOo_len _ _ _ _ _ _ _ _) rfl (wOo_len _ _ _ _ _ _ _ _) rfl rfl rfl rfl) (wOo_h _ _ _ _ _ _ _ _) ⟨rfl, rfl⟩ rfl rfl (Nat.le_of_ble_eq_true rfl) hcel dL_law_699 (fun H locs hP hD hS => ?_)
                      have hbl := best_le la (cb_bring u).1 t1 8
                      obtain ⟨bb, hbb⟩ : ∃ bb : Nat × Int32 × CBu, la_best la (cb_bring u).1 8 t1 = bb := ⟨_, rfl⟩
                      rw [hbb] at hbl hP hD ⊢
                      refine CtI.callV (n := 2) (q0 := 0) (ci := 2) (As := [.int (nI 16), .int (nI bb.1)]) (rest := []) (ws' := wLw cyI cyZ ad qa wr hm w (cb_bring u) (la_trial la 16 bb.1 bb.2.2) la) (o_wouldCost l D cyI cyZ cyJ ad wr hm (cb_bring u) bb.2.2 la 16 bb.1 hla (by decide) hbl) ⟨hx, hb, hown, hts⟩ gL_law_X2_wouldCost rfl ⟨rfl, by decide, by decide, by decide +kernel⟩ ⟨Nat.le_of_ble_eq_true rfl, Nat.le_of_ble_eq_true rfl⟩ ⟨rfl, rfl⟩ hml hl.1 hK hP hD hS hA (ctJ_l (n := 14) (r := 1) (wOo_len _ _ _ _ _ _ _ _) rfl (wOo_len _ _ _ _ _ _ _ _) rfl rfl rfl rfl) (wOo_h _ _ _ _ _ _ _ _) ⟨rfl, rfl⟩ rfl rfl (Nat.le_of_ble_eq_true rfl) hcel dL_law_702 (fun H locs hP hD hS => ?_)
                      obtain ⟨d2, hd4, hd5, hd6⟩ := co_trial la 16 bb.1 bb.2.2
                      rw [show (cb_co (la_trial la 16 bb.1 bb.2.2) - cb_co bb.2.2) = nI d2 from hd6]
                      refine lv_if_lt (x := nI d2) (tgt := 712) hx hb dL_law_705 (by decide) (fun c9 => ?_) (fun c9 => ?_)
                      · exact absurd c9 (nI_pos (by omega))
                      · refine lv_iconst (v := nI 1) hx hb dL_law_708 (by decide) ?_
                        refine lv_goto (tgt := 713) hx hb dL_law_709 (by decide) ?_
                        exact hend _ _ _ hS
        · refine lv_iload_n hx hb dL_law_582 rfl (lv_at hl 3 rfl) ?_
          refine mq_z (x := 1) (tgt := 606) (by omega) hx hb dL_law_583 (by decide) (fun c1 => ?_) (fun c1 => ?_)
          · exact absurd c1 (by decide)
          · refine lv_aload_n hx hb dL_law_586 rfl (lv_at hl 1 rfl) ?_
            refine lv_iload hx hb dL_law_587 (lv_at hl 4 rfl) ?_
            refine CtI.callS (n := 1) (As := [.int (nI j)]) (rest := [.ref (ad 0)]) (ws' := wLw cyI cyZ ad qa wr hm w u cb_new la) (c_address l D cyI cyZ cyJ j (by omega)) ⟨hx, hb, hown, hts⟩ gL_law_L_address rfl ⟨by decide, by decide, by decide +kernel⟩ ⟨Nat.le_of_ble_eq_true rfl, Nat.le_of_ble_eq_true rfl⟩ ⟨rfl, rfl⟩ hml hl.1 hK hP hD hS hA (ctJ_0 (n := 15) (wLw_len _ _ _ _ _ _ _ _ _ _) rfl rfl) rfl rfl (Nat.le_of_ble_eq_true rfl) hcel dL_law_589 (fun H locs hP hD hS => ?_)
            refine CtI.callV (n := 1) (q0 := 0) (ci := 2) (As := [.int (nI (ads j))]) (rest := []) (ws' := wLw cyI cyZ ad qa wr hm w u cb_new la) (o_peek l D cyI cyZ cyJ ad wr hm u cb_new la (ads j) (ads_lt (by omega))) ⟨hx, hb, hown, hts⟩ gL_law_X2_peek rfl ⟨rfl, by decide, by decide, by decide +kernel⟩ ⟨Nat.le_of_ble_eq_true rfl, Nat.le_of_ble_eq_true rfl⟩ ⟨rfl, rfl⟩ hml hl.1 hK hP hD hS hA (ctJ_l (n := 14) (r := 1) (wOo_len _ _ _ _ _ _ _ _) rfl (wOo_len _ _ _ _ _ _ _ _) rfl rfl rfl rfl) (wOo_h _ _ _ _ _ _ _ _) ⟨rfl, rfl⟩ rfl rfl (Nat.le_of_ble_eq_true rfl) hcel dL_law_592 (fun H locs hP hD hS => ?_)
            refine lv_aload_n hx hb dL_law_595 rfl (lv_at hl 2 rfl) ?_
            refine lv_iload hx hb dL_law_596 (lv_at hl 4 rfl) ?_
            refine mq_ldR (k := j) w hx hb hK hP 14 0 (wL_q _ _ _ _ _ _ _ _ _ _) rfl (by omega) (Nat.le_of_ble_eq_true rfl) dL_law_598 ?_
            refine lv_icmp_ne (x := wr (ads j)) (y := w j) (tgt := 606) hx hb dL_law_599 (by decide) (fun c2 => ?_) (fun c2 => ?_)
            · exact absurd (hw j (by omega)).symm c2
            · refine lv_iconst (v := nI 1) hx hb dL_law_602 (by decide) ?_
              refine lv_goto (tgt := 607) hx hb dL_law_603 (by decide) ?_
              refine lv_istore_n (lv' := [(3, .int (nI 1)), (0, .ref b), (1, .ref (ad 0)), (2, .ref qa), (4, .int (nI j))]) hx hb dL_law_607 rfl hl (by decide) rfl (fun ls hl => ?_)
              refine lv_iinc (v := nI (j + 1)) (lv' := [(4, .int (nI (j + 1))), (3, .int (nI 1)), (0, .ref b), (1, .ref (ad 0)), (2, .ref qa)]) hx hb dL_law_608 hl (k := 4) rfl (inc1 _) (by decide) rfl (fun ls hl => ?_)
              refine lv_goto (tgt := 575) hx hb dL_law_611 (by decide) ?_
              exact ihx (j + 1) _ _ _ (by omega) (by omega) hP hD hS (lv_sub hl [2, 3, 4, 1, 0] rfl)
    exact LPx _ 0 _ _ _ (Nat.zero_le _) (Nat.lt_succ_self _) hP hD hS (lv_sub hl [1, 2, 3, 4, 0] rfl)
  · exact absurd c00 (by decide)
theorem law_loop (hC : LC p s m args meth c D A cyI cyZ cyJ b L xs) (hcel : cells ≤ 152 ∧ slots ≤ 4085) (hend : ∀ (H : Heap) (locs : List Loc) (ls : Array Slot), va_S A s.heap H locs → W p l e room_1 s m args below meth c H locs cells slots Q (F0 m 713 ls [.int (nI 1)])) : ∀ n k : Nat, k + n = 150 → KT p l e s m args below meth c Q D A cyI cyZ b ad qa cells slots k := by
  intro n
  induction n with
  | zero =>
    intro k hk H locs ls wr hm w u la hinv hP hD hS hl
    have hk : k = 150 := hk
    subst hk
    exact t_exit hC hcel hend hinv hP hD hS hl
  | succ n ih =>
    intro k hk H locs ls wr hm w u la hinv hP hD hS hl
    exact t_turn hC (ih (k + 1) (by omega)) (by omega) hcel hinv hP hD hS hl
end

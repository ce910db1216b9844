/-! the law's look at the whole -/
abbrev rmL_isInOrder : Room := { frames := 3, cells := 0, slots := 0, locals := 70 }
set_option maxRecDepth 100000 in
set_option maxHeartbeats 4000000 in
theorem o_isInOrder (l : Launch) (D : va_G) (cyI cyZ cyJ : ClassId) (ad : Nat → Nat) (wr hm : Nat → Int32) (u tr : CBu) (la : LAu) (hk : Ok 256 u) (hcf : CF u) : CtI l yL_isInOrder wsL_isInOrder rmL_isInOrder D (T3 cyI cyZ cyJ) [.ref (ad 0)] (wOo cyI cyZ ad wr hm u tr la) (nI 1) (wOo cyI cyZ ad wr hm u tr la) := by
  refine CtI.of (cc := cL_isInOrder) (maxL := 8) (ret := (some .boolean)) (lv0 := [(0, .ref (ad 0))]) (by decide) rfl (Nat.le_of_ble_eq_true rfl) rfl ?_
  intro p e s m below meth c A ls args Q hx hb hml hr hlk hts hown hK hP hA hD hS hl hQ
  have hown : s.vm.findClass RL = some m.cls := hown
  have hbd := ok_of hk
  obtain ⟨hs5, hpl8, hnp⟩ := ok_sizes hk
  refine lv_iconst (v := nI 0) hx hb dL_isInOrder_0 (by decide) ?_
  refine lv_istore_n (lv' := [(1, .int (nI 0)), (0, .ref (ad 0))]) hx hb dL_isInOrder_1 rfl hl (by decide) rfl (fun ls hl => ?_)
  refine lv_iconst (v := nI 0) hx hb dL_isInOrder_2 (by decide) ?_
  refine lv_istore_n (lv' := [(2, .int (nI 0)), (1, .int (nI 0)), (0, .ref (ad 0))]) hx hb dL_isInOrder_3 rfl hl (by decide) rfl (fun ls hl => ?_)
  refine lv_iconst (v := nI 0) hx hb dL_isInOrder_4 (by decide) ?_
  refine lv_istore_n (lv' := [(3, .int (nI 0)), (2, .int (nI 0)), (1, .int (nI 0)), (0, .ref (ad 0))]) hx hb dL_isInOrder_5 rfl hl (by decide) rfl (fun ls hl => ?_)
  refine lv_aload_n hx hb dL_isInOrder_6 rfl (lv_at hl 3 rfl) ?_
  refine CtI.callV (n := 0) (q0 := 0) (ci := 2) (As := []) (rest := []) (ws' := wOo cyI cyZ ad wr hm u tr la) (o_cost l D cyI cyZ cyJ ad wr hm u tr la ) ⟨hx, hb, hown, hts⟩ gL_isInOrder_X2_cost rfl ⟨rfl, by decide, by decide, by decide +kernel⟩ ⟨Nat.le_of_ble_eq_true rfl, Nat.le_of_ble_eq_true rfl⟩ ⟨rfl, rfl⟩ hml hl.1 hK hP hD hS hA (ctJ_a (n := 14) (wOo_len _ _ _ _ _ _ _ _) (wOo_len _ _ _ _ _ _ _ _) rfl) (wOo_h _ _ _ _ _ _ _ _) ⟨rfl, rfl⟩ rfl rfl (Nat.le_of_ble_eq_true rfl) ⟨Nat.zero_le _, Nat.zero_le _⟩ dL_isInOrder_7 (fun H locs hP hD hS => ?_)
  refine lv_aload_n hx hb dL_isInOrder_10 rfl (lv_at hl 3 rfl) ?_
  refine CtI.callV (n := 0) (q0 := 0) (ci := 2) (As := []) (rest := [.int (cb_co u)]) (ws' := wOo cyI cyZ ad wr hm u tr la) (o_hits l D cyI cyZ cyJ ad wr hm u tr la ) ⟨hx, hb, hown, hts⟩ gL_isInOrder_X2_hits rfl ⟨rfl, by decide, by decide, by decide +kernel⟩ ⟨Nat.le_of_ble_eq_true rfl, Nat.le_of_ble_eq_true rfl⟩ ⟨rfl, rfl⟩ hml hl.1 hK hP hD hS hA (ctJ_a (n := 14) (wOo_len _ _ _ _ _ _ _ _) (wOo_len _ _ _ _ _ _ _ _) rfl) (wOo_h _ _ _ _ _ _ _ _) ⟨rfl, rfl⟩ rfl rfl (Nat.le_of_ble_eq_true rfl) ⟨Nat.zero_le _, Nat.zero_le _⟩ dL_isInOrder_11 (fun H locs hP hD hS => ?_)
  refine lv_iconst (v := nI 3) hx hb dL_isInOrder_14 (by decide) ?_
  refine lv_aload_n hx hb dL_isInOrder_15 rfl (lv_at hl 3 rfl) ?_
  refine CtI.callV (n := 0) (q0 := 0) (ci := 2) (As := []) (rest := [.int (nI 3), .int (cb_hi u), .int (cb_co u)]) (ws' := wOo cyI cyZ ad wr hm u tr la) (o_swaps l D cyI cyZ cyJ ad wr hm u tr la ) ⟨hx, hb, hown, hts⟩ gL_isInOrder_X2_swaps rfl ⟨rfl, by decide, by decide, by decide +kernel⟩ ⟨Nat.le_of_ble_eq_true rfl, Nat.le_of_ble_eq_true rfl⟩ ⟨rfl, rfl⟩ hml hl.1 hK hP hD hS hA (ctJ_a (n := 14) (wOo_len _ _ _ _ _ _ _ _) (wOo_len _ _ _ _ _ _ _ _) rfl) (wOo_h _ _ _ _ _ _ _ _) ⟨rfl, rfl⟩ rfl rfl (Nat.le_of_ble_eq_true rfl) ⟨Nat.zero_le _, Nat.zero_le _⟩ dL_isInOrder_16 (fun H locs hP hD hS => ?_)
  refine lv_imul (x := nI 3) (y := cb_sw u) hx hb dL_isInOrder_19 ?_
  refine lv_iadd (x := cb_hi u) (y := nI 3 * cb_sw u) hx hb dL_isInOrder_20 ?_
  refine lv_bipush (v := nI 20) hx hb dL_isInOrder_21 (by decide) ?_
  refine lv_aload_n hx hb dL_isInOrder_23 rfl (lv_at hl 3 rfl) ?_
  refine CtI.callV (n := 0) (q0 := 0) (ci := 2) (As := []) (rest := [.int (nI 20), .int (cb_hi u + (nI 3 * cb_sw u)), .int (cb_co u)]) (ws' := wOo cyI cyZ ad wr hm u tr la) (o_misses l D cyI cyZ cyJ ad wr hm u tr la ) ⟨hx, hb, hown, hts⟩ gL_isInOrder_X2_misses rfl ⟨rfl, by decide, by decide, by decide +kernel⟩ ⟨Nat.le_of_ble_eq_true rfl, Nat.le_of_ble_eq_true rfl⟩ ⟨rfl, rfl⟩ hml hl.1 hK hP hD hS hA (ctJ_a (n := 14) (wOo_len _ _ _ _ _ _ _ _) (wOo_len _ _ _ _ _ _ _ _) rfl) (wOo_h _ _ _ _ _ _ _ _) ⟨rfl, rfl⟩ rfl rfl (Nat.le_of_ble_eq_true rfl) ⟨Nat.zero_le _, Nat.zero_le _⟩ dL_isInOrder_24 (fun H locs hP hD hS => ?_)
  refine lv_imul (x := nI 20) (y := cb_mi u) hx hb dL_isInOrder_27 ?_
  refine lv_iadd (x := cb_hi u + (nI 3 * cb_sw u)) (y := nI 20 * cb_mi u) hx hb dL_isInOrder_28 ?_
  refine lv_bipush (v := nI 10) hx hb dL_isInOrder_29 (by decide) ?_
  refine lv_aload_n hx hb dL_isInOrder_31 rfl (lv_at hl 3 rfl) ?_
  refine CtI.callV (n := 0) (q0 := 0) (ci := 2) (As := []) (rest := [.int (nI 10), .int (cb_hi u + (nI 3 * cb_sw u) + (nI 20 * cb_mi u)), .int (cb_co u)]) (ws' := wOo cyI cyZ ad wr hm u tr la) (o_homecomings l D cyI cyZ cyJ ad wr hm u tr la ) ⟨hx, hb, hown, hts⟩ gL_isInOrder_X2_homecomings rfl ⟨rfl, by decide, by decide, by decide +kernel⟩ ⟨Nat.le_of_ble_eq_true rfl, Nat.le_of_ble_eq_true rfl⟩ ⟨rfl, rfl⟩ hml hl.1 hK hP hD hS hA (ctJ_a (n := 14) (wOo_len _ _ _ _ _ _ _ _) (wOo_len _ _ _ _ _ _ _ _) rfl) (wOo_h _ _ _ _ _ _ _ _) ⟨rfl, rfl⟩ rfl rfl (Nat.le_of_ble_eq_true rfl) ⟨Nat.zero_le _, Nat.zero_le _⟩ dL_isInOrder_32 (fun H locs hP hD hS => ?_)
  refine lv_imul (x := nI 10) (y := cb_hc u) hx hb dL_isInOrder_35 ?_
  refine lv_iadd (x := cb_hi u + (nI 3 * cb_sw u) + (nI 20 * cb_mi u)) (y := nI 10 * cb_hc u) hx hb dL_isInOrder_36 ?_
  refine lv_icmp_ne (x := cb_co u) (y := cb_hi u + (nI 3 * cb_sw u) + (nI 20 * cb_mi u) + (nI 10 * cb_hc u)) (tgt := 55) hx hb dL_isInOrder_37 (by decide) (fun c1 => ?_) (fun c1 => ?_)
  · exact absurd hcf c1
  · refine lv_aload_n hx hb dL_isInOrder_40 rfl (lv_at hl 3 rfl) ?_
    refine CtI.callV (n := 0) (q0 := 0) (ci := 2) (As := []) (rest := []) (ws' := wOo cyI cyZ ad wr hm u tr la) (o_sitting l D cyI cyZ cyJ ad wr hm u tr la ) ⟨hx, hb, hown, hts⟩ gL_isInOrder_X2_sitting rfl ⟨rfl, by decide, by decide, by decide +kernel⟩ ⟨Nat.le_of_ble_eq_true rfl, Nat.le_of_ble_eq_true rfl⟩ ⟨rfl, rfl⟩ hml hl.1 hK hP hD hS hA (ctJ_a (n := 14) (wOo_len _ _ _ _ _ _ _ _) (wOo_len _ _ _ _ _ _ _ _) rfl) (wOo_h _ _ _ _ _ _ _ _) ⟨rfl, rfl⟩ rfl rfl (Nat.le_of_ble_eq_true rfl) ⟨Nat.zero_le _, Nat.zero_le _⟩ dL_isInOrder_41 (fun H locs hP hD hS => ?_)
    refine lv_aload_n hx hb dL_isInOrder_44 rfl (lv_at hl 3 rfl) ?_
    refine CtI.callV (n := 0) (q0 := 0) (ci := 2) (As := []) (rest := [.int (nI u.2.2.2.2.1)]) (ws' := wOo cyI cyZ ad wr hm u tr la) (o_places l D cyI cyZ cyJ ad wr hm u tr la ) ⟨hx, hb, hown, hts⟩ gL_isInOrder_X2_places rfl ⟨rfl, by decide, by decide, by decide +kernel⟩ ⟨Nat.le_of_ble_eq_true rfl, Nat.le_of_ble_eq_true rfl⟩ ⟨rfl, rfl⟩ hml hl.1 hK hP hD hS hA (ctJ_a (n := 14) (wOo_len _ _ _ _ _ _ _ _) (wOo_len _ _ _ _ _ _ _ _) rfl) (wOo_h _ _ _ _ _ _ _ _) ⟨rfl, rfl⟩ rfl rfl (Nat.le_of_ble_eq_true rfl) ⟨Nat.zero_le _, Nat.zero_le _⟩ dL_isInOrder_45 (fun H locs hP hD hS => ?_)
    refine mq_gt (x := u.2.2.2.2.1) (y := u.2.1) (tgt := 55) (by omega) (by omega) hx hb dL_isInOrder_48 (by decide) (fun c2 => ?_) (fun c2 => ?_)
    · exact absurd c2 (by omega)
    · refine lv_iconst (v := nI 1) hx hb dL_isInOrder_51 (by decide) ?_
      refine lv_goto (tgt := 56) hx hb dL_isInOrder_52 (by decide) ?_
      refine lv_istore (lv' := [(4, .int (nI 1)), (3, .int (nI 0)), (2, .int (nI 0)), (1, .int (nI 0)), (0, .ref (ad 0))]) hx hb dL_isInOrder_56 hl (by decide) rfl (fun ls hl => ?_)
      refine lv_iconst (v := nI 0) hx hb dL_isInOrder_58 (by decide) ?_
      refine lv_istore (lv' := [(5, .int (nI 0)), (4, .int (nI 1)), (3, .int (nI 0)), (2, .int (nI 0)), (1, .int (nI 0)), (0, .ref (ad 0))]) hx hb dL_isInOrder_59 hl (by decide) rfl (fun ls hl => ?_)
      have LPa : ∀ (fu : Nat) (j : Nat) (H : Heap) (locs : List Loc) (ls : Array Slot), (j ≤ u.1) → u.1 - j < fu → va_P D vwCl (wOo cyI cyZ ad wr hm u tr la) H → va_D A (wOo cyI cyZ ad wr hm u tr la) → va_S A s.heap H locs → lv_has ls 8 [(0, .ref (ad 0)), (1, .int (nI (lnC u j))), (2, .int (nI 0)), (3, .int (nI 0)), (4, .int (nI 1)), (5, .int (nI j))] → W p l e rmL_isInOrder s m args below meth c H locs 0 0 Q (F0 m 61 ls []) := by
        intro fu
        induction fu with
        | zero =>
          intro j H locs ls hj hfu
          exact absurd hfu (Nat.not_lt_zero _)
        | succ fu iha =>
          intro j H locs ls hj hfua hP hD hS hl
          refine lv_iload hx hb dL_isInOrder_61 (lv_at hl 5 rfl) ?_
          refine lv_aload_n hx hb dL_isInOrder_63 rfl (lv_at hl 0 rfl) ?_
          refine CtI.callV (n := 0) (q0 := 0) (ci := 2) (As := []) (rest := [.int (nI j)]) (ws' := wOo cyI cyZ ad wr hm u tr la) (o_sets l D cyI cyZ cyJ ad wr hm u tr la ) ⟨hx, hb, hown, hts⟩ gL_isInOrder_X2_sets rfl ⟨rfl, by decide, by decide, by decide +kernel⟩ ⟨Nat.le_of_ble_eq_true rfl, Nat.le_of_ble_eq_true rfl⟩ ⟨rfl, rfl⟩ hml hl.1 hK hP hD hS hA (ctJ_a (n := 14) (wOo_len _ _ _ _ _ _ _ _) (wOo_len _ _ _ _ _ _ _ _) rfl) (wOo_h _ _ _ _ _ _ _ _) ⟨rfl, rfl⟩ rfl rfl (Nat.le_of_ble_eq_true rfl) ⟨Nat.zero_le _, Nat.zero_le _⟩ dL_isInOrder_64 (fun H locs hP hD hS => ?_)
          refine mq_ge (x := j) (y := u.1) (tgt := 136) (by omega) (by omega) hx hb dL_isInOrder_67 (by decide) (fun c8 => ?_) (fun c8 => ?_)
          · have hj2 : j = u.1 := by omega
            subst hj2
            refine lv_iconst (v := nI 0) hx hb dL_isInOrder_136 (by decide) ?_
            refine lv_istore (lv' := [(5, .int (nI 0)), (0, .ref (ad 0)), (1, .int (nI (lnC u u.1))), (2, .int (nI 0)), (3, .int (nI 0)), (4, .int (nI 1))]) hx hb dL_isInOrder_137 hl (by decide) rfl (fun ls hl => ?_)
            have LPb : ∀ (fu : Nat) (j : Nat) (H : Heap) (locs : List Loc) (ls : Array Slot), (j ≤ u.2.2.2.2.1) → u.2.2.2.2.1 - j < fu → va_P D vwCl (wOo cyI cyZ ad wr hm u tr la) H → va_D A (wOo cyI cyZ ad wr hm u tr la) → va_S A s.heap H locs → lv_has ls 8 [(0, .ref (ad 0)), (1, .int (nI (lnC u u.1))), (2, .int (nI 0)), (3, .int (nI 0)), (4, .int (nI 1)), (5, .int (nI j))] → W p l e rmL_isInOrder s m args below meth c H locs 0 0 Q (F0 m 139 ls []) := by
              intro fu
              induction fu with
              | zero =>
                intro j H locs ls hj hfu
                exact absurd hfu (Nat.not_lt_zero _)
              | succ fu ihb =>
                intro j H locs ls hj hfub hP hD hS hl
                refine lv_iload hx hb dL_isInOrder_139 (lv_at hl 5 rfl) ?_
                refine lv_aload_n hx hb dL_isInOrder_141 rfl (lv_at hl 0 rfl) ?_
                refine CtI.callV (n := 0) (q0 := 0) (ci := 2) (As := []) (rest := [.int (nI j)]) (ws' := wOo cyI cyZ ad wr hm u tr la) (o_sitting l D cyI cyZ cyJ ad wr hm u tr la ) ⟨hx, hb, hown, hts⟩ gL_isInOrder_X2_sitting rfl ⟨rfl, by decide, by decide, by decide +kernel⟩ ⟨Nat.le_of_ble_eq_true rfl, Nat.le_of_ble_eq_true rfl⟩ ⟨rfl, rfl⟩ hml hl.1 hK hP hD hS hA (ctJ_a (n := 14) (wOo_len _ _ _ _ _ _ _ _) (wOo_len _ _ _ _ _ _ _ _) rfl) (wOo_h _ _ _ _ _ _ _ _) ⟨rfl, rfl⟩ rfl rfl (Nat.le_of_ble_eq_true rfl) ⟨Nat.zero_le _, Nat.zero_le _⟩ dL_isInOrder_142 (fun H locs hP hD hS => ?_)
                refine mq_ge (x := j) (y := u.2.2.2.2.1) (tgt := 244) (by omega) (by omega) hx hb dL_isInOrder_145 (by decide) (fun c15 => ?_) (fun c15 => ?_)
                · rw [w1_none u] at hl
                  refine lv_iconst (v := nI 0) hx hb dL_isInOrder_244 (by decide) ?_
                  refine lv_istore (lv' := [(5, .int (nI 0)), (0, .ref (ad 0)), (1, .int (nI (lnC u u.1) - nI (w1C u 0))), (2, .int (nI 0)), (3, .int (nI 0)), (4, .int (nI 1))]) hx hb dL_isInOrder_245 hl (by decide) rfl (fun ls hl => ?_)
                  have LPc : ∀ (fu : Nat) (i : Nat) (H : Heap) (locs : List Loc) (ls : Array Slot), (i ≤ 256) → 256 - i < fu → va_P D vwCl (wOo cyI cyZ ad wr hm u tr la) H → va_D A (wOo cyI cyZ ad wr hm u tr la) → va_S A s.heap H locs → lv_has ls 8 [(0, .ref (ad 0)), (1, .int (nI (lnC u u.1) - nI (w1C u i))), (2, .int (nI (w2C u i))), (3, .int (nI (dtC u i))), (4, .int (nI 1)), (5, .int (nI i))] → W p l e rmL_isInOrder s m args below meth c H locs 0 0 Q (F0 m 247 ls []) := by
                    intro fu
                    induction fu with
                    | zero =>
                      intro i H locs ls hi hfu
                      exact absurd hfu (Nat.not_lt_zero _)
                    | succ fu ihc =>
                      intro i H locs ls hi hfuc hP hD hS hl
                      refine lv_iload hx hb dL_isInOrder_247 (lv_at hl 5 rfl) ?_
                      refine lv_sipush (v := nI 256) hx hb dL_isInOrder_249 (by decide) ?_
                      refine mq_ge (x := i) (y := 256) (tgt := 399) (by omega) (by omega) hx hb dL_isInOrder_252 (by decide) (fun c16 => ?_) (fun c16 => ?_)
                      · have hi2 : i = 256 := by omega
                        subst hi2
                        refine lv_iload hx hb dL_isInOrder_399 (lv_at hl 4 rfl) ?_
                        refine mq_z (x := 1) (tgt := 428) (by omega) hx hb dL_isInOrder_401 (by decide) (fun c17 => ?_) (fun c17 => ?_)
                        · exact absurd c17 (by decide)
                        · refine lv_iload_n hx hb dL_isInOrder_404 rfl (lv_at hl 1 rfl) ?_
                          refine lv_if_ne (x := nI (lnC u u.1) - nI (w1C u 256)) (tgt := 428) hx hb dL_isInOrder_405 (by decide) (fun c18 => ?_) (fun c18 => ?_)
                          · exact absurd (w1_all hk) c18
                          · refine lv_iload_n hx hb dL_isInOrder_408 rfl (lv_at hl 2 rfl) ?_
                            refine lv_aload_n hx hb dL_isInOrder_409 rfl (lv_at hl 0 rfl) ?_
                            refine CtI.callV (n := 0) (q0 := 0) (ci := 2) (As := []) (rest := [.int (nI (w2C u 256))]) (ws' := wOo cyI cyZ ad wr hm u tr la) (o_sitting l D cyI cyZ cyJ ad wr hm u tr la ) ⟨hx, hb, hown, hts⟩ gL_isInOrder_X2_sitting rfl ⟨rfl, by decide, by decide, by decide +kernel⟩ ⟨Nat.le_of_ble_eq_true rfl, Nat.le_of_ble_eq_true rfl⟩ ⟨rfl, rfl⟩ hml hl.1 hK hP hD hS hA (ctJ_a (n := 14) (wOo_len _ _ _ _ _ _ _ _) (wOo_len _ _ _ _ _ _ _ _) rfl) (wOo_h _ _ _ _ _ _ _ _) ⟨rfl, rfl⟩ rfl rfl (Nat.le_of_ble_eq_true rfl) ⟨Nat.zero_le _, Nat.zero_le _⟩ dL_isInOrder_410 (fun H locs hP hD hS => ?_)
                            refine mq_ne (x := (w2C u 256)) (y := u.2.2.2.2.1) (tgt := 428) (by have := w2C_le u 256; omega) (by omega) hx hb dL_isInOrder_413 (by decide) (fun c19 => ?_) (fun c19 => ?_)
                            · exact absurd (w2_all hk) c19
                            · refine lv_iload_n hx hb dL_isInOrder_416 rfl (lv_at hl 3 rfl) ?_
                              refine lv_aload_n hx hb dL_isInOrder_417 rfl (lv_at hl 0 rfl) ?_
                              refine CtI.callV (n := 0) (q0 := 0) (ci := 2) (As := []) (rest := [.int (nI (dtC u 256))]) (ws' := wOo cyI cyZ ad wr hm u tr la) (o_dirty l D cyI cyZ cyJ ad wr hm u tr la ) ⟨hx, hb, hown, hts⟩ gL_isInOrder_X2_dirty rfl ⟨rfl, by decide, by decide, by decide +kernel⟩ ⟨Nat.le_of_ble_eq_true rfl, Nat.le_of_ble_eq_true rfl⟩ ⟨rfl, rfl⟩ hml hl.1 hK hP hD hS hA (ctJ_a (n := 14) (wOo_len _ _ _ _ _ _ _ _) (wOo_len _ _ _ _ _ _ _ _) rfl) (wOo_h _ _ _ _ _ _ _ _) ⟨rfl, rfl⟩ rfl rfl (Nat.le_of_ble_eq_true rfl) ⟨Nat.zero_le _, Nat.zero_le _⟩ dL_isInOrder_418 (fun H locs hP hD hS => ?_)
                              refine mq_ne (x := (dtC u 256)) (y := (cb_dirty u)) (tgt := 428) (by have := dtC_le u 256; omega) (by have := dirty_256 u; omega) hx hb dL_isInOrder_421 (by decide) (fun c20 => ?_) (fun c20 => ?_)
                              · exact absurd (dt_all u) c20
                              · refine lv_iconst (v := nI 1) hx hb dL_isInOrder_424 (by decide) ?_
                                refine lv_goto (tgt := 429) hx hb dL_isInOrder_425 (by decide) ?_
                                exact CtI.zret hQ hx hb hr narrow_b1 hlk hK hP hD hS dL_isInOrder_429 rfl rfl
                      · have hw3 := where_lt i u
                        refine lv_aload_n hx hb dL_isInOrder_255 rfl (lv_at hl 0 rfl) ?_
                        refine lv_iload hx hb dL_isInOrder_256 (lv_at hl 5 rfl) ?_
                        refine CtI.callV (n := 1) (q0 := 0) (ci := 2) (As := [.int (nI i)]) (rest := []) (ws' := wOo cyI cyZ ad wr hm u tr la) (o_placeOf l D cyI cyZ cyJ ad wr hm u tr la i hbd (by omega)) ⟨hx, hb, hown, hts⟩ gL_isInOrder_X2_placeOf rfl ⟨rfl, by decide, by decide, by decide +kernel⟩ ⟨Nat.le_of_ble_eq_true rfl, Nat.le_of_ble_eq_true rfl⟩ ⟨rfl, rfl⟩ hml hl.1 hK hP hD hS hA (ctJ_a (n := 14) (wOo_len _ _ _ _ _ _ _ _) (wOo_len _ _ _ _ _ _ _ _) rfl) (wOo_h _ _ _ _ _ _ _ _) ⟨rfl, rfl⟩ rfl rfl (Nat.le_of_ble_eq_true rfl) ⟨Nat.zero_le _, Nat.zero_le _⟩ dL_isInOrder_258 (fun H locs hP hD hS => ?_)
                        refine lv_istore (lv' := [(6, .int (nI (cb_where i u))), (0, .ref (ad 0)), (1, .int (nI (lnC u u.1) - nI (w1C u i))), (2, .int (nI (w2C u i))), (3, .int (nI (dtC u i))), (4, .int (nI 1)), (5, .int (nI i))]) hx hb dL_isInOrder_261 hl (by decide) rfl (fun ls hl => ?_)
                        refine lv_iload_n hx hb dL_isInOrder_263 rfl (lv_at hl 2 rfl) ?_
                        refine lv_iload hx hb dL_isInOrder_264 (lv_at hl 0 rfl) ?_
                        refine lv_iconst (v := nI 1) hx hb dL_isInOrder_266 (by decide) ?_
                        have JN267 : ∀ x1 : Int32, x1 = (if cb_where i u = 1 then 1 else 0) → W p l e rmL_isInOrder s m args below meth c H locs 0 0 Q (F0 m 275 ls [.int x1, .int (nI (lnC u u.1) - nI (w1C u i))]) := by
                          intro x1 hx1
                          refine lv_isub (x := nI (lnC u u.1) - nI (w1C u i)) (y := x1) hx hb dL_isInOrder_275 ?_
                          rw [show ((nI (lnC u u.1) - nI (w1C u i)) - x1) = (nI (lnC u u.1) - nI (w1C u (i + 1))) from w1_step hx1]
                          refine lv_istore_n (lv' := [(1, .int (nI (lnC u u.1) - nI (w1C u (i + 1)))), (6, .int (nI (cb_where i u))), (0, .ref (ad 0)), (2, .int (nI (w2C u i))), (3, .int (nI (dtC u i))), (4, .int (nI 1)), (5, .int (nI i))]) hx hb dL_isInOrder_276 rfl hl (by decide) rfl (fun ls hl => ?_)
                          refine lv_iload_n hx hb dL_isInOrder_277 rfl (lv_at hl 3 rfl) ?_
                          refine lv_iload hx hb dL_isInOrder_278 (lv_at hl 1 rfl) ?_
                          refine lv_iconst (v := nI 2) hx hb dL_isInOrder_280 (by decide) ?_
                          have JN281 : ∀ x2 : Int32, x2 = (if cb_where i u = 2 then 1 else 0) → W p l e rmL_isInOrder s m args below meth c H locs 0 0 Q (F0 m 289 ls [.int x2, .int (nI (w2C u i))]) := by
                            intro x2 hx2
                            refine lv_iadd (x := nI (w2C u i)) (y := x2) hx hb dL_isInOrder_289 ?_
                            rw [show (nI (w2C u i) + x2) = nI (w2C u (i + 1)) from w2_step hx2]
                            refine lv_istore_n (lv' := [(2, .int (nI (w2C u (i + 1)))), (1, .int (nI (lnC u u.1) - nI (w1C u (i + 1)))), (6, .int (nI (cb_where i u))), (0, .ref (ad 0)), (3, .int (nI (dtC u i))), (4, .int (nI 1)), (5, .int (nI i))]) hx hb dL_isInOrder_290 rfl hl (by decide) rfl (fun ls hl => ?_)
                            refine lv_iload_n hx hb dL_isInOrder_291 rfl (lv_at hl 4 rfl) ?_
                            refine lv_aload_n hx hb dL_isInOrder_292 rfl (lv_at hl 3 rfl) ?_
                            refine lv_iload hx hb dL_isInOrder_293 (lv_at hl 6 rfl) ?_
                            refine CtI.callV (n := 1) (q0 := 0) (ci := 2) (As := [.int (nI i)]) (rest := [.int (nI (dtC u i))]) (ws' := wOo cyI cyZ ad wr hm u tr la) (o_isDirty l D cyI cyZ cyJ ad wr hm u tr la i (by omega)) ⟨hx, hb, hown, hts⟩ gL_isInOrder_X2_isDirty rfl ⟨rfl, by decide, by decide, by decide +kernel⟩ ⟨Nat.le_of_ble_eq_true rfl, Nat.le_of_ble_eq_true rfl⟩ ⟨rfl, rfl⟩ hml hl.1 hK hP hD hS hA (ctJ_a (n := 14) (wOo_len _ _ _ _ _ _ _ _) (wOo_len _ _ _ _ _ _ _ _) rfl) (wOo_h _ _ _ _ _ _ _ _) ⟨rfl, rfl⟩ rfl rfl (Nat.le_of_ble_eq_true rfl) ⟨Nat.zero_le _, Nat.zero_le _⟩ dL_isInOrder_295 (fun H locs hP hD hS => ?_)
                            have JN298 : ∀ x3 : Int32, x3 = (if cb_dt u i = true then 1 else 0) → W p l e rmL_isInOrder s m args below meth c H locs 0 0 Q (F0 m 306 ls [.int x3, .int (nI (dtC u i))]) := by
                              intro x3 hx3
                              refine lv_iadd (x := nI (dtC u i)) (y := x3) hx hb dL_isInOrder_306 ?_
                              rw [show (nI (dtC u i) + x3) = nI (dtC u (i + 1)) from dt_step hx3]
                              refine lv_istore_n (lv' := [(3, .int (nI (dtC u (i + 1)))), (2, .int (nI (w2C u (i + 1)))), (1, .int (nI (lnC u u.1) - nI (w1C u (i + 1)))), (6, .int (nI (cb_where i u))), (0, .ref (ad 0)), (4, .int (nI 1)), (5, .int (nI i))]) hx hb dL_isInOrder_307 rfl hl (by decide) rfl (fun ls hl => ?_)
                              refine lv_iload hx hb dL_isInOrder_308 (lv_at hl 5 rfl) ?_
                              refine mq_z (x := 1) (tgt := 331) (by omega) hx hb dL_isInOrder_310 (by decide) (fun c21 => ?_) (fun c21 => ?_)
                              · exact absurd c21 (by decide)
                              · have JN327 : ∀ (H : Heap) (locs : List Loc), va_P D vwCl (wOo cyI cyZ ad wr hm u tr la) H → va_D A (wOo cyI cyZ ad wr hm u tr la) → va_S A s.heap H locs → W p l e rmL_isInOrder s m args below meth c H locs 0 0 Q (F0 m 327 ls []) := by
                                  intro H locs hP hD hS
                                  refine lv_iconst (v := nI 1) hx hb dL_isInOrder_327 (by decide) ?_
                                  refine lv_goto (tgt := 332) hx hb dL_isInOrder_328 (by decide) ?_
                                  refine lv_istore (lv' := [(4, .int (nI 1)), (3, .int (nI (dtC u (i + 1)))), (2, .int (nI (w2C u (i + 1)))), (1, .int (nI (lnC u u.1) - nI (w1C u (i + 1)))), (6, .int (nI (cb_where i u))), (0, .ref (ad 0)), (5, .int (nI i))]) hx hb dL_isInOrder_332 hl (by decide) rfl (fun ls hl => ?_)
                                  refine lv_iconst (v := nI 4) hx hb dL_isInOrder_334 (by decide) ?_
                                  refine lv_iload hx hb dL_isInOrder_335 (lv_at hl 6 rfl) ?_
                                  refine mq_imul (x := 4) (y := i) hx hb dL_isInOrder_337 ?_
                                  refine lv_istore (lv' := [(7, .int (nI (4 * i))), (4, .int (nI 1)), (3, .int (nI (dtC u (i + 1)))), (2, .int (nI (w2C u (i + 1)))), (1, .int (nI (lnC u u.1) - nI (w1C u (i + 1)))), (6, .int (nI (cb_where i u))), (0, .ref (ad 0)), (5, .int (nI i))]) hx hb dL_isInOrder_338 hl (by decide) rfl (fun ls hl => ?_)
                                  have LPw : ∀ (fu : Nat) (w : Nat) (H : Heap) (locs : List Loc) (ls : Array Slot), (4 * i ≤ w) → (w ≤ 4 * i + 4) → 4 * i + 4 - w < fu → va_P D vwCl (wOo cyI cyZ ad wr hm u tr la) H → va_D A (wOo cyI cyZ ad wr hm u tr la) → va_S A s.heap H locs → lv_has ls 8 [(0, .ref (ad 0)), (1, .int (nI (lnC u u.1) - nI (w1C u (i + 1)))), (2, .int (nI (w2C u (i + 1)))), (3, .int (nI (dtC u (i + 1)))), (4, .int (nI 1)), (5, .int (nI i)), (7, .int (nI w))] → W p l e rmL_isInOrder s m args below meth c H locs 0 0 Q (F0 m 340 ls []) := by
                                    intro fu
                                    induction fu with
                                    | zero =>
                                      intro w H locs ls hw1 hw2 hfu
                                      exact absurd hfu (Nat.not_lt_zero _)
                                    | succ fu ihw =>
                                      intro w H locs ls hw1 hw2 hfuw hP hD hS hl
                                      refine lv_iload hx hb dL_isInOrder_340 (lv_at hl 6 rfl) ?_
                                      refine lv_iconst (v := nI 4) hx hb dL_isInOrder_342 (by decide) ?_
                                      refine lv_iload hx hb dL_isInOrder_343 (lv_at hl 5 rfl) ?_
                                      refine mq_imul (x := 4) (y := i) hx hb dL_isInOrder_345 ?_
                                      refine lv_iconst (v := nI 4) hx hb dL_isInOrder_346 (by decide) ?_
                                      refine mq_iadd (x := (4 * i)) (y := 4) hx hb dL_isInOrder_347 ?_
                                      refine mq_ge (x := w) (y := (4 * i + 4)) (tgt := 393) (by omega) (by omega) hx hb dL_isInOrder_348 (by decide) (fun c24 => ?_) (fun c24 => ?_)
                                      · refine lv_iinc (v := nI (i + 1)) (lv' := [(5, .int (nI (i + 1))), (0, .ref (ad 0)), (1, .int (nI (lnC u u.1) - nI (w1C u (i + 1)))), (2, .int (nI (w2C u (i + 1)))), (3, .int (nI (dtC u (i + 1)))), (4, .int (nI 1)), (7, .int (nI w))]) hx hb dL_isInOrder_393 hl (k := 5) rfl (inc1 _) (by decide) rfl (fun ls hl => ?_)
                                        refine lv_goto (tgt := 247) hx hb dL_isInOrder_396 (by decide) ?_
                                        exact ihc (i + 1) _ _ _ (by omega) (by omega) hP hD hS (lv_sub hl [1, 2, 3, 4, 5, 0] rfl)
                                      · refine lv_iload hx hb dL_isInOrder_351 (lv_at hl 4 rfl) ?_
                                        refine mq_z (x := 1) (tgt := 384) (by omega) hx hb dL_isInOrder_353 (by decide) (fun c25 => ?_) (fun c25 => ?_)
                                        · exact absurd c25 (by decide)
                                        · refine lv_aload_n hx hb dL_isInOrder_356 rfl (lv_at hl 0 rfl) ?_
                                          refine lv_iload hx hb dL_isInOrder_357 (lv_at hl 5 rfl) ?_
                                          refine CtI.callV (n := 1) (q0 := 0) (ci := 2) (As := [.int (nI i)]) (rest := []) (ws' := wOo cyI cyZ ad wr hm u tr la) (o_isDirty l D cyI cyZ cyJ ad wr hm u tr la i (by omega)) ⟨hx, hb, hown, hts⟩ gL_isInOrder_X2_isDirty rfl ⟨rfl, by decide, by decide, by decide +kernel⟩ ⟨Nat.le_of_ble_eq_true rfl, Nat.le_of_ble_eq_true rfl⟩ ⟨rfl, rfl⟩ hml hl.1 hK hP hD hS hA (ctJ_a (n := 14) (wOo_len _ _ _ _ _ _ _ _) (wOo_len _ _ _ _ _ _ _ _) rfl) (wOo_h _ _ _ _ _ _ _ _) ⟨rfl, rfl⟩ rfl rfl (Nat.le_of_ble_eq_true rfl) ⟨Nat.zero_le _, Nat.zero_le _⟩ dL_isInOrder_359 (fun H locs hP hD hS => ?_)
                                          refine mq_bnz (b := (cb_dt u i)) (tgt := 380) hx hb dL_isInOrder_362 (by decide) (fun c26 => ?_) (fun c26 => ?_)
                                          · refine lv_iconst (v := nI 1) hx hb dL_isInOrder_380 (by decide) ?_
                                            refine lv_goto (tgt := 385) hx hb dL_isInOrder_381 (by decide) ?_
                                            refine lv_istore (lv' := [(4, .int (nI 1)), (0, .ref (ad 0)), (1, .int (nI (lnC u u.1) - nI (w1C u (i + 1)))), (2, .int (nI (w2C u (i + 1)))), (3, .int (nI (dtC u (i + 1)))), (5, .int (nI i)), (7, .int (nI w))]) hx hb dL_isInOrder_385 hl (by decide) rfl (fun ls hl => ?_)
                                            refine lv_iinc (v := nI (w + 1)) (lv' := [(7, .int (nI (w + 1))), (4, .int (nI 1)), (0, .ref (ad 0)), (1, .int (nI (lnC u u.1) - nI (w1C u (i + 1)))), (2, .int (nI (w2C u (i + 1)))), (3, .int (nI (dtC u (i + 1)))), (5, .int (nI i))]) hx hb dL_isInOrder_387 hl (k := 6) rfl (inc1 _) (by decide) rfl (fun ls hl => ?_)
                                            refine lv_goto (tgt := 340) hx hb dL_isInOrder_390 (by decide) ?_
                                            exact ihw (w + 1) _ _ _ (by omega) (by omega) (by omega) hP hD hS (lv_sub hl [2, 3, 4, 5, 1, 6, 0] rfl)
                                          · refine lv_aload_n hx hb dL_isInOrder_365 rfl (lv_at hl 0 rfl) ?_
                                            refine lv_iload hx hb dL_isInOrder_366 (lv_at hl 6 rfl) ?_
                                            refine CtI.callV (n := 1) (q0 := 0) (ci := 2) (As := [.int (nI w)]) (rest := []) (ws' := wOo cyI cyZ ad wr hm u tr la) (o_atHome l D cyI cyZ cyJ ad wr hm u tr la w (by omega)) ⟨hx, hb, hown, hts⟩ gL_isInOrder_X2_atHome rfl ⟨rfl, by decide, by decide, by decide +kernel⟩ ⟨Nat.le_of_ble_eq_true rfl, Nat.le_of_ble_eq_true rfl⟩ ⟨rfl, rfl⟩ hml hl.1 hK hP hD hS hA (ctJ_a (n := 14) (wOo_len _ _ _ _ _ _ _ _) (wOo_len _ _ _ _ _ _ _ _) rfl) (wOo_h _ _ _ _ _ _ _ _) ⟨rfl, rfl⟩ rfl rfl (Nat.le_of_ble_eq_true rfl) ⟨Nat.zero_le _, Nat.zero_le _⟩ dL_isInOrder_368 (fun H locs hP hD hS => ?_)
                                            refine lv_aload_n hx hb dL_isInOrder_371 rfl (lv_at hl 0 rfl) ?_
                                            refine lv_iload hx hb dL_isInOrder_372 (lv_at hl 6 rfl) ?_
                                            refine CtI.callV (n := 1) (q0 := 0) (ci := 2) (As := [.int (nI w)]) (rest := [.int (if cb_dt u (w / 4) = true then hm w else wr w)]) (ws' := wOo cyI cyZ ad wr hm u tr la) (o_peek l D cyI cyZ cyJ ad wr hm u tr la w (by omega)) ⟨hx, hb, hown, hts⟩ gL_isInOrder_X2_peek rfl ⟨rfl, by decide, by decide, by decide +kernel⟩ ⟨Nat.le_of_ble_eq_true rfl, Nat.le_of_ble_eq_true rfl⟩ ⟨rfl, rfl⟩ hml hl.1 hK hP hD hS hA (ctJ_a (n := 14) (wOo_len _ _ _ _ _ _ _ _) (wOo_len _ _ _ _ _ _ _ _) rfl) (wOo_h _ _ _ _ _ _ _ _) ⟨rfl, rfl⟩ rfl rfl (Nat.le_of_ble_eq_true rfl) ⟨Nat.zero_le _, Nat.zero_le _⟩ dL_isInOrder_374 (fun H locs hP hD hS => ?_)
                                            refine lv_icmp_ne (x := (if cb_dt u (w / 4) = true then hm w else wr w)) (y := wr w) (tgt := 384) hx hb dL_isInOrder_377 (by decide) (fun c27 => ?_) (fun c27 => ?_)
                                            · exact absurd (by rw [show w / 4 = i by omega, if_neg (by rw [c26]; exact Bool.false_ne_true)]) c27
                                            · refine lv_iconst (v := nI 1) hx hb dL_isInOrder_380 (by decide) ?_
                                              refine lv_goto (tgt := 385) hx hb dL_isInOrder_381 (by decide) ?_
                                              refine lv_istore (lv' := [(4, .int (nI 1)), (0, .ref (ad 0)), (1, .int (nI (lnC u u.1) - nI (w1C u (i + 1)))), (2, .int (nI (w2C u (i + 1)))), (3, .int (nI (dtC u (i + 1)))), (5, .int (nI i)), (7, .int (nI w))]) hx hb dL_isInOrder_385 hl (by decide) rfl (fun ls hl => ?_)
                                              refine lv_iinc (v := nI (w + 1)) (lv' := [(7, .int (nI (w + 1))), (4, .int (nI 1)), (0, .ref (ad 0)), (1, .int (nI (lnC u u.1) - nI (w1C u (i + 1)))), (2, .int (nI (w2C u (i + 1)))), (3, .int (nI (dtC u (i + 1)))), (5, .int (nI i))]) hx hb dL_isInOrder_387 hl (k := 6) rfl (inc1 _) (by decide) rfl (fun ls hl => ?_)
                                              refine lv_goto (tgt := 340) hx hb dL_isInOrder_390 (by decide) ?_
                                              exact ihw (w + 1) _ _ _ (by omega) (by omega) (by omega) hP hD hS (lv_sub hl [2, 3, 4, 5, 1, 6, 0] rfl)
                                  exact LPw _ (4 * i) _ _ _ (Nat.le_refl _) (by omega) (Nat.lt_succ_self _) hP hD hS (lv_sub hl [6, 4, 3, 2, 1, 7, 0] rfl)
                                refine lv_iload hx hb dL_isInOrder_313 (lv_at hl 3 rfl) ?_
                                refine lv_if_gt (x := nI (cb_where i u)) (tgt := 327) hx hb dL_isInOrder_315 (by decide) (fun c22 => ?_) (fun c22 => ?_)
                                · exact JN327 _ _ hP hD hS
                                · have hw0 : cb_where i u = 0 := by
                                    rcases hw3 with h | h | h
                                    · exact h
                                    · exact absurd (by rw [h]; decide) c22
                                    · exact absurd (by rw [h]; decide) c22
                                  refine lv_aload_n hx hb dL_isInOrder_318 rfl (lv_at hl 4 rfl) ?_
                                  refine lv_iload hx hb dL_isInOrder_319 (lv_at hl 6 rfl) ?_
                                  refine CtI.callV (n := 1) (q0 := 0) (ci := 2) (As := [.int (nI i)]) (rest := []) (ws' := wOo cyI cyZ ad wr hm u tr la) (o_isDirty l D cyI cyZ cyJ ad wr hm u tr la i (by omega)) ⟨hx, hb, hown, hts⟩ gL_isInOrder_X2_isDirty rfl ⟨rfl, by decide, by decide, by decide +kernel⟩ ⟨Nat.le_of_ble_eq_true rfl, Nat.le_of_ble_eq_true rfl⟩ ⟨rfl, rfl⟩ hml hl.1 hK hP hD hS hA (ctJ_a (n := 14) (wOo_len _ _ _ _ _ _ _ _) (wOo_len _ _ _ _ _ _ _ _) rfl) (wOo_h _ _ _ _ _ _ _ _) ⟨rfl, rfl⟩ rfl rfl (Nat.le_of_ble_eq_true rfl) ⟨Nat.zero_le _, Nat.zero_le _⟩ dL_isInOrder_321 (fun H locs hP hD hS => ?_)
                                  refine mq_bnz (b := (cb_dt u i)) (tgt := 331) hx hb dL_isInOrder_324 (by decide) (fun c23 => ?_) (fun c23 => ?_)
                                  · exact absurd c23 (by rw [where_0 hk (by omega) hw0]; decide)
                                  · exact JN327 _ _ hP hD hS
                            refine mq_bz (b := (cb_dt u i)) (tgt := 305) hx hb dL_isInOrder_298 (by decide) (fun b3 => ?_) (fun b3 => ?_)
                            · refine lv_iconst (v := nI 0) hx hb dL_isInOrder_305 (by decide) ?_
                              exact JN298 _ (by rw [if_neg (by rw [b3]; exact Bool.false_ne_true)]; rfl)
                            · refine lv_iconst (v := nI 1) hx hb dL_isInOrder_301 (by decide) ?_
                              refine lv_goto (tgt := 306) hx hb dL_isInOrder_302 (by decide) ?_
                              exact JN298 _ (by rw [if_pos b3]; rfl)
                          refine mq_ne (x := (cb_where i u)) (y := 2) (tgt := 288) (by omega) (by omega) hx hb dL_isInOrder_281 (by decide) (fun b2 => ?_) (fun b2 => ?_)
                          · refine lv_iconst (v := nI 0) hx hb dL_isInOrder_288 (by decide) ?_
                            exact JN281 _ (by rw [if_neg b2]; rfl)
                          · refine lv_iconst (v := nI 1) hx hb dL_isInOrder_284 (by decide) ?_
                            refine lv_goto (tgt := 289) hx hb dL_isInOrder_285 (by decide) ?_
                            exact JN281 _ (by rw [if_pos b2]; rfl)
                        refine mq_ne (x := (cb_where i u)) (y := 1) (tgt := 274) (by omega) (by omega) hx hb dL_isInOrder_267 (by decide) (fun b1 => ?_) (fun b1 => ?_)
                        · refine lv_iconst (v := nI 0) hx hb dL_isInOrder_274 (by decide) ?_
                          exact JN267 _ (by rw [if_neg b1]; rfl)
                        · refine lv_iconst (v := nI 1) hx hb dL_isInOrder_270 (by decide) ?_
                          refine lv_goto (tgt := 275) hx hb dL_isInOrder_271 (by decide) ?_
                          exact JN267 _ (by rw [if_pos b1]; rfl)
                  exact LPc _ 0 _ _ _ (Nat.zero_le _) (Nat.lt_succ_self _) hP hD hS (lv_sub hl [1, 2, 3, 4, 5, 0] rfl)
                · obtain ⟨hq1, hq2, hq3⟩ := ok_bench (k := u.2.2.2.2.1 - 1 - j) hk (by omega)
                  have hm1 := Nat.mod_lt (u.2.2.2.1 (u.2.2.2.2.1 - 1 - j)) (show 0 < u.1 by omega)
                  refine lv_aload_n hx hb dL_isInOrder_148 rfl (lv_at hl 0 rfl) ?_
                  refine lv_iload hx hb dL_isInOrder_149 (lv_at hl 5 rfl) ?_
                  refine CtI.callV (n := 1) (q0 := 0) (ci := 2) (As := [.int (nI j)]) (rest := []) (ws' := wOo cyI cyZ ad wr hm u tr la) (o_lineOnBench l D cyI cyZ cyJ ad wr hm u tr la j hbd (by omega)) ⟨hx, hb, hown, hts⟩ gL_isInOrder_X2_lineOnBench rfl ⟨rfl, by decide, by decide, by decide +kernel⟩ ⟨Nat.le_of_ble_eq_true rfl, Nat.le_of_ble_eq_true rfl⟩ ⟨rfl, rfl⟩ hml hl.1 hK hP hD hS hA (ctJ_a (n := 14) (wOo_len _ _ _ _ _ _ _ _) (wOo_len _ _ _ _ _ _ _ _) rfl) (wOo_h _ _ _ _ _ _ _ _) ⟨rfl, rfl⟩ rfl rfl (Nat.le_of_ble_eq_true rfl) ⟨Nat.zero_le _, Nat.zero_le _⟩ dL_isInOrder_151 (fun H locs hP hD hS => ?_)
                  refine lv_istore (lv' := [(6, .int (nI (u.2.2.2.1 (u.2.2.2.2.1 - 1 - j)))), (0, .ref (ad 0)), (1, .int (nI (lnC u u.1))), (2, .int (nI 0)), (3, .int (nI 0)), (4, .int (nI 1)), (5, .int (nI j))]) hx hb dL_isInOrder_154 hl (by decide) rfl (fun ls hl => ?_)
                  refine lv_iload hx hb dL_isInOrder_156 (lv_at hl 5 rfl) ?_
                  refine mq_z (x := 1) (tgt := 191) (by omega) hx hb dL_isInOrder_158 (by decide) (fun c9 => ?_) (fun c9 => ?_)
                  · exact absurd c9 (by decide)
                  · refine lv_aload_n hx hb dL_isInOrder_161 rfl (lv_at hl 1 rfl) ?_
                    refine lv_iload hx hb dL_isInOrder_162 (lv_at hl 0 rfl) ?_
                    refine CtI.callV (n := 1) (q0 := 0) (ci := 2) (As := [.int (nI (u.2.2.2.1 (u.2.2.2.2.1 - 1 - j)))]) (rest := []) (ws' := wOo cyI cyZ ad wr hm u tr la) (o_placeOf l D cyI cyZ cyJ ad wr hm u tr la (u.2.2.2.1 (u.2.2.2.2.1 - 1 - j)) hbd (by omega)) ⟨hx, hb, hown, hts⟩ gL_isInOrder_X2_placeOf rfl ⟨rfl, by decide, by decide, by decide +kernel⟩ ⟨Nat.le_of_ble_eq_true rfl, Nat.le_of_ble_eq_true rfl⟩ ⟨rfl, rfl⟩ hml hl.1 hK hP hD hS hA (ctJ_a (n := 14) (wOo_len _ _ _ _ _ _ _ _) (wOo_len _ _ _ _ _ _ _ _) rfl) (wOo_h _ _ _ _ _ _ _ _) ⟨rfl, rfl⟩ rfl rfl (Nat.le_of_ble_eq_true rfl) ⟨Nat.zero_le _, Nat.zero_le _⟩ dL_isInOrder_164 (fun H locs hP hD hS => ?_)
                    refine lv_iconst (v := nI 2) hx hb dL_isInOrder_167 (by decide) ?_
                    refine mq_ne (x := (cb_where (u.2.2.2.1 (u.2.2.2.2.1 - 1 - j)) u)) (y := 2) (tgt := 191) (by omega) (by omega) hx hb dL_isInOrder_168 (by decide) (fun c10 => ?_) (fun c10 => ?_)
                    · exact absurd hq2 c10
                    · refine lv_aload_n hx hb dL_isInOrder_171 rfl (lv_at hl 1 rfl) ?_
                      refine lv_iload hx hb dL_isInOrder_172 (lv_at hl 0 rfl) ?_
                      refine lv_aload_n hx hb dL_isInOrder_174 rfl (lv_at hl 1 rfl) ?_
                      refine CtI.callV (n := 0) (q0 := 0) (ci := 2) (As := []) (rest := [.int (nI (u.2.2.2.1 (u.2.2.2.2.1 - 1 - j))), .ref (ad 0)]) (ws' := wOo cyI cyZ ad wr hm u tr la) (o_sets l D cyI cyZ cyJ ad wr hm u tr la ) ⟨hx, hb, hown, hts⟩ gL_isInOrder_X2_sets rfl ⟨rfl, by decide, by decide, by decide +kernel⟩ ⟨Nat.le_of_ble_eq_true rfl, Nat.le_of_ble_eq_true rfl⟩ ⟨rfl, rfl⟩ hml hl.1 hK hP hD hS hA (ctJ_a (n := 14) (wOo_len _ _ _ _ _ _ _ _) (wOo_len _ _ _ _ _ _ _ _) rfl) (wOo_h _ _ _ _ _ _ _ _) ⟨rfl, rfl⟩ rfl rfl (Nat.le_of_ble_eq_true rfl) ⟨Nat.zero_le _, Nat.zero_le _⟩ dL_isInOrder_175 (fun H locs hP hD hS => ?_)
                      refine mq_irem (x := (u.2.2.2.1 (u.2.2.2.2.1 - 1 - j))) (y := u.1) (by omega) (by omega) (by omega) hx hb dL_isInOrder_178 ?_
                      refine CtI.callV (n := 1) (q0 := 0) (ci := 2) (As := [.int (nI ((u.2.2.2.1 (u.2.2.2.2.1 - 1 - j)) % u.1))]) (rest := []) (ws' := wOo cyI cyZ ad wr hm u tr la) (o_lineIn l D cyI cyZ cyJ ad wr hm u tr la ((u.2.2.2.1 (u.2.2.2.2.1 - 1 - j)) % u.1) hbd (by omega)) ⟨hx, hb, hown, hts⟩ gL_isInOrder_X2_lineIn rfl ⟨rfl, by decide, by decide, by decide +kernel⟩ ⟨Nat.le_of_ble_eq_true rfl, Nat.le_of_ble_eq_true rfl⟩ ⟨rfl, rfl⟩ hml hl.1 hK hP hD hS hA (ctJ_a (n := 14) (wOo_len _ _ _ _ _ _ _ _) (wOo_len _ _ _ _ _ _ _ _) rfl) (wOo_h _ _ _ _ _ _ _ _) ⟨rfl, rfl⟩ rfl rfl (Nat.le_of_ble_eq_true rfl) ⟨Nat.zero_le _, Nat.zero_le _⟩ dL_isInOrder_179 (fun H locs hP hD hS => ?_)
                      refine lv_iload hx hb dL_isInOrder_182 (lv_at hl 0 rfl) ?_
                      refine lv_icmp_eq (x := oI (cb_ln u ((u.2.2.2.1 (u.2.2.2.2.1 - 1 - j)) % u.1))) (y := nI (u.2.2.2.1 (u.2.2.2.2.1 - 1 - j))) (tgt := 191) hx hb dL_isInOrder_184 (by decide) (fun c11 => ?_) (fun c11 => ?_)
                      · exact absurd c11 (oI_ne hk hq1 hq3)
                      · refine lv_iconst (v := nI 1) hx hb dL_isInOrder_187 (by decide) ?_
                        refine lv_goto (tgt := 192) hx hb dL_isInOrder_188 (by decide) ?_
                        refine lv_istore (lv' := [(4, .int (nI 1)), (6, .int (nI (u.2.2.2.1 (u.2.2.2.2.1 - 1 - j)))), (0, .ref (ad 0)), (1, .int (nI (lnC u u.1))), (2, .int (nI 0)), (3, .int (nI 0)), (5, .int (nI j))]) hx hb dL_isInOrder_192 hl (by decide) rfl (fun ls hl => ?_)
                        refine lv_iload hx hb dL_isInOrder_194 (lv_at hl 6 rfl) ?_
                        refine lv_iconst (v := nI 1) hx hb dL_isInOrder_196 (by decide) ?_
                        refine mq_iadd (x := j) (y := 1) hx hb dL_isInOrder_197 ?_
                        refine lv_istore (lv' := [(7, .int (nI (j + 1))), (4, .int (nI 1)), (6, .int (nI (u.2.2.2.1 (u.2.2.2.2.1 - 1 - j)))), (0, .ref (ad 0)), (1, .int (nI (lnC u u.1))), (2, .int (nI 0)), (3, .int (nI 0)), (5, .int (nI j))]) hx hb dL_isInOrder_198 hl (by decide) rfl (fun ls hl => ?_)
                        have LPk : ∀ (fu : Nat) (k : Nat) (H : Heap) (locs : List Loc) (ls : Array Slot), (j < k) → (k ≤ u.2.2.2.2.1) → u.2.2.2.2.1 - k < fu → va_P D vwCl (wOo cyI cyZ ad wr hm u tr la) H → va_D A (wOo cyI cyZ ad wr hm u tr la) → va_S A s.heap H locs → lv_has ls 8 [(0, .ref (ad 0)), (1, .int (nI (lnC u u.1))), (2, .int (nI 0)), (3, .int (nI 0)), (4, .int (nI 1)), (5, .int (nI j)), (6, .int (nI (u.2.2.2.1 (u.2.2.2.2.1 - 1 - j)))), (7, .int (nI k))] → W p l e rmL_isInOrder s m args below meth c H locs 0 0 Q (F0 m 200 ls []) := by
                          intro fu
                          induction fu with
                          | zero =>
                            intro k H locs ls hk1 hk2 hfu
                            exact absurd hfu (Nat.not_lt_zero _)
                          | succ fu ihk =>
                            intro k H locs ls hk1 hk2 hfuk hP hD hS hl
                            refine lv_iload hx hb dL_isInOrder_200 (lv_at hl 7 rfl) ?_
                            refine lv_aload_n hx hb dL_isInOrder_202 rfl (lv_at hl 0 rfl) ?_
                            refine CtI.callV (n := 0) (q0 := 0) (ci := 2) (As := []) (rest := [.int (nI k)]) (ws' := wOo cyI cyZ ad wr hm u tr la) (o_sitting l D cyI cyZ cyJ ad wr hm u tr la ) ⟨hx, hb, hown, hts⟩ gL_isInOrder_X2_sitting rfl ⟨rfl, by decide, by decide, by decide +kernel⟩ ⟨Nat.le_of_ble_eq_true rfl, Nat.le_of_ble_eq_true rfl⟩ ⟨rfl, rfl⟩ hml hl.1 hK hP hD hS hA (ctJ_a (n := 14) (wOo_len _ _ _ _ _ _ _ _) (wOo_len _ _ _ _ _ _ _ _) rfl) (wOo_h _ _ _ _ _ _ _ _) ⟨rfl, rfl⟩ rfl rfl (Nat.le_of_ble_eq_true rfl) ⟨Nat.zero_le _, Nat.zero_le _⟩ dL_isInOrder_203 (fun H locs hP hD hS => ?_)
                            refine mq_ge (x := k) (y := u.2.2.2.2.1) (tgt := 238) (by omega) (by omega) hx hb dL_isInOrder_206 (by decide) (fun c12 => ?_) (fun c12 => ?_)
                            · refine lv_iinc (v := nI (j + 1)) (lv' := [(5, .int (nI (j + 1))), (0, .ref (ad 0)), (1, .int (nI (lnC u u.1))), (2, .int (nI 0)), (3, .int (nI 0)), (4, .int (nI 1)), (6, .int (nI (u.2.2.2.1 (u.2.2.2.2.1 - 1 - j)))), (7, .int (nI k))]) hx hb dL_isInOrder_238 hl (k := 5) rfl (inc1 _) (by decide) rfl (fun ls hl => ?_)
                              refine lv_goto (tgt := 139) hx hb dL_isInOrder_241 (by decide) ?_
                              exact ihb (j + 1) _ _ _ (by omega) (by omega) hP hD hS (lv_sub hl [1, 2, 3, 4, 5, 0] rfl)
                            · refine lv_iload hx hb dL_isInOrder_209 (lv_at hl 4 rfl) ?_
                              refine mq_z (x := 1) (tgt := 229) (by omega) hx hb dL_isInOrder_211 (by decide) (fun c13 => ?_) (fun c13 => ?_)
                              · exact absurd c13 (by decide)
                              · refine lv_aload_n hx hb dL_isInOrder_214 rfl (lv_at hl 0 rfl) ?_
                                refine lv_iload hx hb dL_isInOrder_215 (lv_at hl 7 rfl) ?_
                                refine CtI.callV (n := 1) (q0 := 0) (ci := 2) (As := [.int (nI k)]) (rest := []) (ws' := wOo cyI cyZ ad wr hm u tr la) (o_lineOnBench l D cyI cyZ cyJ ad wr hm u tr la k hbd (by omega)) ⟨hx, hb, hown, hts⟩ gL_isInOrder_X2_lineOnBench rfl ⟨rfl, by decide, by decide, by decide +kernel⟩ ⟨Nat.le_of_ble_eq_true rfl, Nat.le_of_ble_eq_true rfl⟩ ⟨rfl, rfl⟩ hml hl.1 hK hP hD hS hA (ctJ_a (n := 14) (wOo_len _ _ _ _ _ _ _ _) (wOo_len _ _ _ _ _ _ _ _) rfl) (wOo_h _ _ _ _ _ _ _ _) ⟨rfl, rfl⟩ rfl rfl (Nat.le_of_ble_eq_true rfl) ⟨Nat.zero_le _, Nat.zero_le _⟩ dL_isInOrder_217 (fun H locs hP hD hS => ?_)
                                refine lv_iload hx hb dL_isInOrder_220 (lv_at hl 6 rfl) ?_
                                refine mq_eq (x := (u.2.2.2.1 (u.2.2.2.2.1 - 1 - k))) (y := (u.2.2.2.1 (u.2.2.2.2.1 - 1 - j))) (tgt := 229) (by have := (ok_bench (k := u.2.2.2.2.1 - 1 - k) hk (by omega)).1; omega) (by omega) hx hb dL_isInOrder_222 (by decide) (fun c14 => ?_) (fun c14 => ?_)
                                · exact absurd c14 (ok_twice hk (by omega) (by omega) (by omega))
                                · refine lv_iconst (v := nI 1) hx hb dL_isInOrder_225 (by decide) ?_
                                  refine lv_goto (tgt := 230) hx hb dL_isInOrder_226 (by decide) ?_
                                  refine lv_istore (lv' := [(4, .int (nI 1)), (0, .ref (ad 0)), (1, .int (nI (lnC u u.1))), (2, .int (nI 0)), (3, .int (nI 0)), (5, .int (nI j)), (6, .int (nI (u.2.2.2.1 (u.2.2.2.2.1 - 1 - j)))), (7, .int (nI k))]) hx hb dL_isInOrder_230 hl (by decide) rfl (fun ls hl => ?_)
                                  refine lv_iinc (v := nI (k + 1)) (lv' := [(7, .int (nI (k + 1))), (4, .int (nI 1)), (0, .ref (ad 0)), (1, .int (nI (lnC u u.1))), (2, .int (nI 0)), (3, .int (nI 0)), (5, .int (nI j)), (6, .int (nI (u.2.2.2.1 (u.2.2.2.2.1 - 1 - j))))]) hx hb dL_isInOrder_232 hl (k := 7) rfl (inc1 _) (by decide) rfl (fun ls hl => ?_)
                                  refine lv_goto (tgt := 200) hx hb dL_isInOrder_235 (by decide) ?_
                                  exact ihk (k + 1) _ _ _ (by omega) (by omega) (by omega) hP hD hS (lv_sub hl [2, 3, 4, 5, 1, 6, 7, 0] rfl)
                        exact LPk _ (j + 1) _ _ _ (by omega) (by omega) (Nat.lt_succ_self _) hP hD hS (lv_sub hl [3, 4, 5, 6, 1, 7, 2, 0] rfl)
            exact LPb _ 0 _ _ _ (Nat.zero_le _) (Nat.lt_succ_self _) hP hD hS (lv_sub hl [1, 2, 3, 4, 5, 0] rfl)
          · refine lv_aload_n hx hb dL_isInOrder_70 rfl (lv_at hl 0 rfl) ?_
            refine lv_iload hx hb dL_isInOrder_71 (lv_at hl 5 rfl) ?_
            refine CtI.callV (n := 1) (q0 := 0) (ci := 2) (As := [.int (nI j)]) (rest := []) (ws' := wOo cyI cyZ ad wr hm u tr la) (o_lineIn l D cyI cyZ cyJ ad wr hm u tr la j hbd (by omega)) ⟨hx, hb, hown, hts⟩ gL_isInOrder_X2_lineIn rfl ⟨rfl, by decide, by decide, by decide +kernel⟩ ⟨Nat.le_of_ble_eq_true rfl, Nat.le_of_ble_eq_true rfl⟩ ⟨rfl, rfl⟩ hml hl.1 hK hP hD hS hA (ctJ_a (n := 14) (wOo_len _ _ _ _ _ _ _ _) (wOo_len _ _ _ _ _ _ _ _) rfl) (wOo_h _ _ _ _ _ _ _ _) ⟨rfl, rfl⟩ rfl rfl (Nat.le_of_ble_eq_true rfl) ⟨Nat.zero_le _, Nat.zero_le _⟩ dL_isInOrder_73 (fun H locs hP hD hS => ?_)
            rcases hln : cb_ln u j with _ | q
            · refine lv_istore (lv' := [(6, .int (-1)), (0, .ref (ad 0)), (1, .int (nI (lnC u j))), (2, .int (nI 0)), (3, .int (nI 0)), (4, .int (nI 1)), (5, .int (nI j))]) hx hb dL_isInOrder_76 hl (by decide) rfl (fun ls hl => ?_)
              refine lv_iload_n hx hb dL_isInOrder_78 rfl (lv_at hl 2 rfl) ?_
              refine lv_iload hx hb dL_isInOrder_79 (lv_at hl 0 rfl) ?_
              refine lv_if_lt (x := -1) (tgt := 88) hx hb dL_isInOrder_81 (by decide) (fun c3 => ?_) (fun c3 => ?_)
              · refine lv_iconst (v := nI 0) hx hb dL_isInOrder_88 (by decide) ?_
                refine mq_iadd (x := (lnC u j)) (y := 0) hx hb dL_isInOrder_89 ?_
                rw [show nI (lnC u j + 0) = nI (lnC u (j + 1)) from (by rw [lnC_none hln]; rfl)]
                refine lv_istore_n (lv' := [(1, .int (nI (lnC u (j + 1)))), (6, .int (-1)), (0, .ref (ad 0)), (2, .int (nI 0)), (3, .int (nI 0)), (4, .int (nI 1)), (5, .int (nI j))]) hx hb dL_isInOrder_90 rfl hl (by decide) rfl (fun ls hl => ?_)
                refine lv_iload hx hb dL_isInOrder_91 (lv_at hl 5 rfl) ?_
                refine mq_z (x := 1) (tgt := 127) (by omega) hx hb dL_isInOrder_93 (by decide) (fun c4 => ?_) (fun c4 => ?_)
                · exact absurd c4 (by decide)
                · refine lv_iload hx hb dL_isInOrder_96 (lv_at hl 1 rfl) ?_
                  refine lv_if_lt (x := -1) (tgt := 123) hx hb dL_isInOrder_98 (by decide) (fun c5 => ?_) (fun c5 => ?_)
                  · refine lv_iconst (v := nI 1) hx hb dL_isInOrder_123 (by decide) ?_
                    refine lv_goto (tgt := 128) hx hb dL_isInOrder_124 (by decide) ?_
                    refine lv_istore (lv' := [(4, .int (nI 1)), (1, .int (nI (lnC u (j + 1)))), (6, .int (-1)), (0, .ref (ad 0)), (2, .int (nI 0)), (3, .int (nI 0)), (5, .int (nI j))]) hx hb dL_isInOrder_128 hl (by decide) rfl (fun ls hl => ?_)
                    refine lv_iinc (v := nI (j + 1)) (lv' := [(5, .int (nI (j + 1))), (4, .int (nI 1)), (1, .int (nI (lnC u (j + 1)))), (6, .int (-1)), (0, .ref (ad 0)), (2, .int (nI 0)), (3, .int (nI 0))]) hx hb dL_isInOrder_130 hl (k := 6) rfl (inc1 _) (by decide) rfl (fun ls hl => ?_)
                    refine lv_goto (tgt := 61) hx hb dL_isInOrder_133 (by decide) ?_
                    exact iha (j + 1) _ _ _ (by omega) (by omega) hP hD hS (lv_sub hl [4, 2, 5, 6, 1, 0] rfl)
                  · exact absurd (by decide) c5
              · exact absurd (by decide) c3
            · obtain ⟨hq1, hq2, hq3⟩ := ok_line hk hln
              refine lv_istore (lv' := [(6, .int (nI q)), (0, .ref (ad 0)), (1, .int (nI (lnC u j))), (2, .int (nI 0)), (3, .int (nI 0)), (4, .int (nI 1)), (5, .int (nI j))]) hx hb dL_isInOrder_76 hl (by decide) rfl (fun ls hl => ?_)
              refine lv_iload_n hx hb dL_isInOrder_78 rfl (lv_at hl 2 rfl) ?_
              refine lv_iload hx hb dL_isInOrder_79 (lv_at hl 0 rfl) ?_
              refine lv_if_lt (x := nI q) (tgt := 88) hx hb dL_isInOrder_81 (by decide) (fun c3 => ?_) (fun c3 => ?_)
              · exact absurd c3 (nI_pos (by omega))
              · refine lv_iconst (v := nI 1) hx hb dL_isInOrder_84 (by decide) ?_
                refine lv_goto (tgt := 89) hx hb dL_isInOrder_85 (by decide) ?_
                refine mq_iadd (x := (lnC u j)) (y := 1) hx hb dL_isInOrder_89 ?_
                rw [show nI (lnC u j + 1) = nI (lnC u (j + 1)) from (by rw [lnC_some hln])]
                refine lv_istore_n (lv' := [(1, .int (nI (lnC u (j + 1)))), (6, .int (nI q)), (0, .ref (ad 0)), (2, .int (nI 0)), (3, .int (nI 0)), (4, .int (nI 1)), (5, .int (nI j))]) hx hb dL_isInOrder_90 rfl hl (by decide) rfl (fun ls hl => ?_)
                refine lv_iload hx hb dL_isInOrder_91 (lv_at hl 5 rfl) ?_
                refine mq_z (x := 1) (tgt := 127) (by omega) hx hb dL_isInOrder_93 (by decide) (fun c4 => ?_) (fun c4 => ?_)
                · exact absurd c4 (by decide)
                · refine lv_iload hx hb dL_isInOrder_96 (lv_at hl 1 rfl) ?_
                  refine lv_if_lt (x := nI q) (tgt := 123) hx hb dL_isInOrder_98 (by decide) (fun c5 => ?_) (fun c5 => ?_)
                  · exact absurd c5 (nI_pos (by omega))
                  · refine lv_iload hx hb dL_isInOrder_101 (lv_at hl 1 rfl) ?_
                    refine lv_aload_n hx hb dL_isInOrder_103 rfl (lv_at hl 2 rfl) ?_
                    refine CtI.callV (n := 0) (q0 := 0) (ci := 2) (As := []) (rest := [.int (nI q)]) (ws' := wOo cyI cyZ ad wr hm u tr la) (o_sets l D cyI cyZ cyJ ad wr hm u tr la ) ⟨hx, hb, hown, hts⟩ gL_isInOrder_X2_sets rfl ⟨rfl, by decide, by decide, by decide +kernel⟩ ⟨Nat.le_of_ble_eq_true rfl, Nat.le_of_ble_eq_true rfl⟩ ⟨rfl, rfl⟩ hml hl.1 hK hP hD hS hA (ctJ_a (n := 14) (wOo_len _ _ _ _ _ _ _ _) (wOo_len _ _ _ _ _ _ _ _) rfl) (wOo_h _ _ _ _ _ _ _ _) ⟨rfl, rfl⟩ rfl rfl (Nat.le_of_ble_eq_true rfl) ⟨Nat.zero_le _, Nat.zero_le _⟩ dL_isInOrder_104 (fun H locs hP hD hS => ?_)
                    refine mq_irem (x := q) (y := u.1) (by omega) (by omega) (by omega) hx hb dL_isInOrder_107 ?_
                    refine lv_iload hx hb dL_isInOrder_108 (lv_at hl 6 rfl) ?_
                    refine mq_ne (x := (q % u.1)) (y := j) (tgt := 127) (by omega) (by omega) hx hb dL_isInOrder_110 (by decide) (fun c6 => ?_) (fun c6 => ?_)
                    · exact absurd hq1 c6
                    · refine lv_aload_n hx hb dL_isInOrder_113 rfl (lv_at hl 2 rfl) ?_
                      refine lv_iload hx hb dL_isInOrder_114 (lv_at hl 1 rfl) ?_
                      refine CtI.callV (n := 1) (q0 := 0) (ci := 2) (As := [.int (nI q)]) (rest := []) (ws' := wOo cyI cyZ ad wr hm u tr la) (o_placeOf l D cyI cyZ cyJ ad wr hm u tr la q hbd (by omega)) ⟨hx, hb, hown, hts⟩ gL_isInOrder_X2_placeOf rfl ⟨rfl, by decide, by decide, by decide +kernel⟩ ⟨Nat.le_of_ble_eq_true rfl, Nat.le_of_ble_eq_true rfl⟩ ⟨rfl, rfl⟩ hml hl.1 hK hP hD hS hA (ctJ_a (n := 14) (wOo_len _ _ _ _ _ _ _ _) (wOo_len _ _ _ _ _ _ _ _) rfl) (wOo_h _ _ _ _ _ _ _ _) ⟨rfl, rfl⟩ rfl rfl (Nat.le_of_ble_eq_true rfl) ⟨Nat.zero_le _, Nat.zero_le _⟩ dL_isInOrder_116 (fun H locs hP hD hS => ?_)
                      refine lv_iconst (v := nI 1) hx hb dL_isInOrder_119 (by decide) ?_
                      refine mq_ne (x := (cb_where q u)) (y := 1) (tgt := 127) (by omega) (by omega) hx hb dL_isInOrder_120 (by decide) (fun c7 => ?_) (fun c7 => ?_)
                      · exact absurd hq3 c7
                      · refine lv_iconst (v := nI 1) hx hb dL_isInOrder_123 (by decide) ?_
                        refine lv_goto (tgt := 128) hx hb dL_isInOrder_124 (by decide) ?_
                        refine lv_istore (lv' := [(4, .int (nI 1)), (1, .int (nI (lnC u (j + 1)))), (6, .int (nI q)), (0, .ref (ad 0)), (2, .int (nI 0)), (3, .int (nI 0)), (5, .int (nI j))]) hx hb dL_isInOrder_128 hl (by decide) rfl (fun ls hl => ?_)
                        refine lv_iinc (v := nI (j + 1)) (lv' := [(5, .int (nI (j + 1))), (4, .int (nI 1)), (1, .int (nI (lnC u (j + 1)))), (6, .int (nI q)), (0, .ref (ad 0)), (2, .int (nI 0)), (3, .int (nI 0))]) hx hb dL_isInOrder_130 hl (k := 6) rfl (inc1 _) (by decide) rfl (fun ls hl => ?_)
                        refine lv_goto (tgt := 61) hx hb dL_isInOrder_133 (by decide) ?_
                        exact iha (j + 1) _ _ _ (by omega) (by omega) hP hD hS (lv_sub hl [4, 2, 5, 6, 1, 0] rfl)
      exact LPa _ 0 _ _ _ (Nat.zero_le _) (Nat.lt_succ_self _) hP hD hS (lv_sub hl [5, 4, 3, 2, 1, 0] rfl)

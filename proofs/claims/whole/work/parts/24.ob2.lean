abbrev rmJ9_floorMod_7cf53 : Room := { frames := 0, cells := 0, slots := 0, locals := 0 }
set_option maxRecDepth 100000 in
set_option maxHeartbeats 4000000 in
theorem c_fm (l : Launch) (D : va_G) (cyI cyZ cyJ : ClassId) (a : Nat) (z : Int) (ha : a < 1024) (hz1 : -64 ≤ z) (hz2 : z ≤ 64) : CtI l yJ9_floorMod_7cf53 wsJ9_floorMod_7cf53 rmJ9_floorMod_7cf53 D (T3 cyI cyZ cyJ) [.int (nI a + Int32.ofInt z), .int (nI 1024)] (([] : va_W)) (nI (nxt a z)) (([] : va_W)) := by
  refine CtI.ofF (cc := cJ9_floorMod_7cf53) (maxL := 3) (ret := (some .int)) (lv0 := [(0, .int (nI a + Int32.ofInt z)), (1, .int (nI 1024))]) (by decide +kernel) rfl (Nat.le_of_ble_eq_true rfl) rfl ?_
  intro p e s m below meth c A ls args Q hx hb hml hr hlk hts hown hK hP hA hD hS hl hQ
  have hown : s.vm.findClass RJ9 = some m.cls := hown
  rcases Int.lt_or_le ((a : Int) + z) 0 with hp | hp
  · rw [fm_neg a z hp] at hl
    obtain ⟨f1, f2, f3, f4⟩ := fm_all ⟨(-((a : Int) + z)).toNat, by omega⟩ (by show 0 < (-((a : Int) + z)).toNat; omega)
    dsimp only at f1 f2 f3 f4
    refine lv_iload_n hx hb dJ9_floorMod_7cf53_0 rfl (lv_at hl 0 rfl) ?_
    refine lv_iload_n hx hb dJ9_floorMod_7cf53_1 rfl (lv_at hl 1 rfl) ?_
    refine lv_irem (x := -nI (-((a : Int) + z)).toNat) (y := 1024) hx hb dJ9_floorMod_7cf53_2 (by decide) ?_
    rw [show ((-nI (-((a : Int) + z)).toNat) - (-nI (-((a : Int) + z)).toNat) / 1024 * 1024) = (-nI (-((a : Int) + z)).toNat) from f1]
    refine lv_istore_n (lv' := [(2, .int (-nI (-((a : Int) + z)).toNat)), (0, .int (-nI (-((a : Int) + z)).toNat)), (1, .int (nI 1024))]) hx hb dJ9_floorMod_7cf53_3 rfl hl (by decide) rfl (fun ls hl => ?_)
    refine lv_iload_n hx hb dJ9_floorMod_7cf53_4 rfl (lv_at hl 1 rfl) ?_
    refine lv_iload_n hx hb dJ9_floorMod_7cf53_5 rfl (lv_at hl 2 rfl) ?_
    refine lv_ixor (x := -nI (-((a : Int) + z)).toNat) (y := 1024) hx hb dJ9_floorMod_7cf53_6 ?_
    refine lv_if_ge (x := (-nI (-((a : Int) + z)).toNat) ^^^ 1024) (tgt := 18) hx hb dJ9_floorMod_7cf53_7 (by decide) (fun c1 => ?_) (fun c1 => ?_)
    · exact absurd f2 (Int32.not_lt.mpr c1)
    · refine lv_iload_n hx hb dJ9_floorMod_7cf53_10 rfl (lv_at hl 0 rfl) ?_
      refine lv_if_eq (x := -nI (-((a : Int) + z)).toNat) (tgt := 18) hx hb dJ9_floorMod_7cf53_11 (by decide) (fun c2 => ?_) (fun c2 => ?_)
      · exact absurd c2 f3
      · refine lv_iload_n hx hb dJ9_floorMod_7cf53_14 rfl (lv_at hl 0 rfl) ?_
        refine lv_iload_n hx hb dJ9_floorMod_7cf53_15 rfl (lv_at hl 2 rfl) ?_
        refine lv_iadd (x := -nI (-((a : Int) + z)).toNat) (y := 1024) hx hb dJ9_floorMod_7cf53_16 ?_
        exact CtI.ret hQ hx hb hr hlk hK hP hD hS dJ9_floorMod_7cf53_17 (f4.trans (congrArg nI (nxt_neg hp (by omega)))) rfl
  · rw [fm_pos a z hp] at hl
    refine lv_iload_n hx hb dJ9_floorMod_7cf53_0 rfl (lv_at hl 0 rfl) ?_
    refine lv_iload_n hx hb dJ9_floorMod_7cf53_1 rfl (lv_at hl 1 rfl) ?_
    refine mq_irem (x := (((a : Int) + z).toNat)) (y := 1024) (by omega) (by decide) (by decide) hx hb dJ9_floorMod_7cf53_2 ?_
    refine lv_istore_n (lv' := [(2, .int (nI ((((a : Int) + z).toNat) % 1024))), (0, .int (nI (((a : Int) + z).toNat))), (1, .int (nI 1024))]) hx hb dJ9_floorMod_7cf53_3 rfl hl (by decide) rfl (fun ls hl => ?_)
    refine lv_iload_n hx hb dJ9_floorMod_7cf53_4 rfl (lv_at hl 1 rfl) ?_
    refine lv_iload_n hx hb dJ9_floorMod_7cf53_5 rfl (lv_at hl 2 rfl) ?_
    refine lv_ixor (x := nI (((a : Int) + z).toNat)) (y := 1024) hx hb dJ9_floorMod_7cf53_6 ?_
    refine lv_if_ge (x := (nI (((a : Int) + z).toNat)) ^^^ 1024) (tgt := 18) hx hb dJ9_floorMod_7cf53_7 (by decide) (fun c1 => ?_) (fun c1 => ?_)
    · refine lv_iload_n hx hb dJ9_floorMod_7cf53_18 rfl (lv_at hl 0 rfl) ?_
      exact CtI.ret hQ hx hb hr hlk hK hP hD hS dJ9_floorMod_7cf53_19 (congrArg nI (nxt_pos hp)) rfl
    · exact absurd (show nI ((a : Int) + z).toNat ^^^ nI 1024 < 0 from Int32.not_le.mp c1) (fm_x (by omega))
abbrev rmX2_walk : Room := { frames := 4, cells := 0, slots := 0, locals := 90 }
set_option maxRecDepth 100000 in
set_option maxHeartbeats 4000000 in
theorem c_walk (l : Launch) (D : va_G) (cyI cyZ cyJ : ClassId) (h b1 b2 hu u1 u2 u3 ht t1 t2 t3 hw l1 l2 : Nat) (wr hm : Nat → Int32) (u tr : CBu) (la : LAu) (a : Nat) (z : Int) (k : Nat) (hbd : cb_bd u) (hla : la_bd la) (ha : a < 1024) (hz1 : -64 ≤ z) (hz2 : z ≤ 64) (hk1 : 1 ≤ k) (hk2 : k ≤ 100) : CtI l yX2_walk wsX2_walk rmX2_walk D (T3 cyI cyZ cyJ) [.ref h, .int (nI a), .int (Int32.ofInt z), .int (nI k)] ((OBo cyI h b1 b2 hu ht hw wr hm) ++ ((CBc cyI cyZ hu u1 u2 u3 u) ++ ((CBc cyI cyZ ht t1 t2 t3 tr) ++ (LAc cyI cyZ hw l1 l2 la)))) (cb_co (ob_walk a z k u la).1 - cb_co u) ((OBo cyI h b1 b2 hu ht hw wr hm) ++ ((CBc cyI cyZ hu u1 u2 u3 ((ob_walk a z k u la).1)) ++ ((CBc cyI cyZ ht t1 t2 t3 tr) ++ (LAc cyI cyZ hw l1 l2 ((ob_walk a z k u la).2))))) := by
  refine CtI.of (cc := cX2_walk) (maxL := 7) (ret := (some .int)) (lv0 := [(0, .ref h), (1, .int (nI a)), (2, .int (Int32.ofInt z)), (3, .int (nI k))]) (by decide) rfl (Nat.le_of_ble_eq_true rfl) rfl ?_
  intro p e s m below meth c A ls args Q hx hb hml hr hlk hts hown hK hP hA hD hS hl hQ
  have hown : s.vm.findClass RX2 = some m.cls := hown
  have hi_RX0 : ∀ w ∈ wsX00, w ∈ wsX2_walk := by decide +kernel
  have hi_RX2 : ∀ w ∈ wsX20, w ∈ wsX2_walk := by decide +kernel
  have hf_21 := hts (.fieldLink RX2 21 "OutcastBench" "actual" "LOutcastBench$CacheAndBench;") (by decide +kernel)
  have hf_61 := hts (.fieldLink RX2 61 "OutcastBench$CacheAndBench" "costSoFar" "I") (by decide +kernel)
  refine lv_iload_n hx hb dX2_walk_0 rfl (lv_at hl 1 rfl) ?_
  refine CtV.callS (n := 1) (wc := ([] : va_W)) (wr := (OBo cyI h b1 b2 hu ht hw wr hm) ++ ((CBc cyI cyZ hu u1 u2 u3 u) ++ ((CBc cyI cyZ ht t1 t2 t3 tr) ++ (LAc cyI cyZ hw l1 l2 la)))) (w1 := ([] : va_W)) (ws' := (OBo cyI h b1 b2 hu ht hw wr hm) ++ ((CBc cyI cyZ hu u1 u2 u3 u) ++ ((CBc cyI cyZ ht t1 t2 t3 tr) ++ (LAc cyI cyZ hw l1 l2 la)))) (isC := []) (isR := [0, 1, 2, 3, 4, 5, 6, 7, 8, 9, 10, 11, 12, 13]) (ps := [0, 1, 2, 3, 4, 5, 6, 7, 8, 9, 10, 11, 12, 13]) (As := [.int (nI a)]) (rest := []) (c_requireWord l D cyI cyZ cyJ a ha) ⟨hx, hb, hown, hts⟩ gX2_walk_X2_requireWord rfl ⟨by decide, by decide, by decide +kernel⟩ ⟨Nat.le_of_ble_eq_true rfl, Nat.le_of_ble_eq_true rfl⟩ ⟨rfl, rfl⟩ hml hl.1 hK hP hD hS hA ⟨rfl, rfl, rfl, rfl, rfl, rfl, rfl⟩ rfl rfl (Nat.le_of_ble_eq_true rfl) ⟨Nat.zero_le _, Nat.zero_le _⟩ dX2_walk_1 (fun H locs hP hD hS => ?_)
  refine lv_iload_n hx hb dX2_walk_4 rfl (lv_at hl 2 rfl) ?_
  refine lv_bipush (v := -64) hx hb dX2_walk_5 (by decide) ?_
  refine lv_icmp_lt (x := Int32.ofInt z) (y := -64) (tgt := 27) hx hb dX2_walk_7 (by decide) (fun c1 => ?_) (fun c1 => ?_)
  · exact absurd c1 (ofInt_ge hz1 hz2)
  · refine lv_iload_n hx hb dX2_walk_10 rfl (lv_at hl 2 rfl) ?_
    refine lv_bipush (v := nI 64) hx hb dX2_walk_11 (by decide) ?_
    refine lv_icmp_gt (x := Int32.ofInt z) (y := 64) (tgt := 27) hx hb dX2_walk_13 (by decide) (fun c2 => ?_) (fun c2 => ?_)
    · exact absurd c2 (ofInt_le hz1 hz2)
    · refine lv_iload_n hx hb dX2_walk_16 rfl (lv_at hl 3 rfl) ?_
      refine lv_iconst (v := nI 1) hx hb dX2_walk_17 (by decide) ?_
      refine mq_lt (x := k) (y := 1) (tgt := 27) (by omega) (by omega) hx hb dX2_walk_18 (by decide) (fun c3 => ?_) (fun c3 => ?_)
      · exact absurd c3 (by omega)
      · refine lv_iload_n hx hb dX2_walk_21 rfl (lv_at hl 3 rfl) ?_
        refine lv_bipush (v := nI 100) hx hb dX2_walk_22 (by decide) ?_
        refine lv_icmp_le (x := nI k) (y := 100) (tgt := 37) hx hb dX2_walk_24 (by decide) (fun c4 => ?_) (fun c4 => ?_)
        · refine lv_aload_n hx hb dX2_walk_37 rfl (lv_at hl 0 rfl) ?_
          refine va_get (D := D) (ci := 2) (v := .ref hu) (C := RX2) (T := TX2) (N := 5) hx hb hts hi_RX2 hown hK hP 0 rfl rfl 2 (by decide) hf_21 (fun _ h9 => h9) rfl dX2_walk_38 ?_
          refine va_get (D := D) (ci := 0) (v := .int u.2.2.2.2.2.2.2.2.2.2) (C := RX0) (T := TX0) (N := 11) hx hb hts hi_RX0 hown hK hP 3 rfl rfl 10 (by decide) hf_61 (fun _ h9 => h9) rfl dX2_walk_41 ?_
          refine lv_istore (lv' := [(4, .int u.2.2.2.2.2.2.2.2.2.2), (0, .ref h), (1, .int (nI a)), (2, .int (Int32.ofInt z)), (3, .int (nI k))]) hx hb dX2_walk_44 hl (by decide) rfl (fun ls hl => ?_)
          refine lv_iload_n hx hb dX2_walk_46 rfl (lv_at hl 2 rfl) ?_
          refine lv_istore (lv' := [(5, .int (nI a)), (4, .int u.2.2.2.2.2.2.2.2.2.2), (0, .ref h), (1, .int (nI a)), (2, .int (Int32.ofInt z)), (3, .int (nI k))]) hx hb dX2_walk_47 hl (by decide) rfl (fun ls hl => ?_)
          refine lv_iconst (v := nI 0) hx hb dX2_walk_49 (by decide) ?_
          refine lv_istore (lv' := [(6, .int (nI 0)), (5, .int (nI a)), (4, .int u.2.2.2.2.2.2.2.2.2.2), (0, .ref h), (1, .int (nI a)), (2, .int (Int32.ofInt z)), (3, .int (nI k))]) hx hb dX2_walk_50 hl (by decide) rfl (fun ls hl => ?_)
          have LP52 : ∀ (fu : Nat) (j : Nat) (H : Heap) (locs : List Loc) (ls : Array Slot), (j ≤ k) → k - j < fu → va_P D vwCl ((OBo cyI h b1 b2 hu ht hw wr hm) ++ ((CBc cyI cyZ hu u1 u2 u3 ((ob_walk a z j u la).1)) ++ ((CBc cyI cyZ ht t1 t2 t3 tr) ++ (LAc cyI cyZ hw l1 l2 ((ob_walk a z j u la).2))))) H → va_D A ((OBo cyI h b1 b2 hu ht hw wr hm) ++ ((CBc cyI cyZ hu u1 u2 u3 ((ob_walk a z j u la).1)) ++ ((CBc cyI cyZ ht t1 t2 t3 tr) ++ (LAc cyI cyZ hw l1 l2 ((ob_walk a z j u la).2))))) → va_S A s.heap H locs → lv_has ls 7 [(0, .ref h), (1, .int (nI a)), (2, .int (Int32.ofInt z)), (3, .int (nI k)), (4, .int u.2.2.2.2.2.2.2.2.2.2), (5, .int (nI (adr a z j))), (6, .int (nI j))] → W p l e rmX2_walk s m args below meth c H locs 0 0 Q (F0 m 52 ls []) := by
            intro fu
            induction fu with
            | zero =>
              intro j H locs ls hjk hfu
              exact absurd hfu (Nat.not_lt_zero _)
            | succ fu ih =>
              intro j H locs ls hjk hfu hP hD hS hl
              refine lv_iload hx hb dX2_walk_52 (lv_at hl 6 rfl) ?_
              refine lv_iload_n hx hb dX2_walk_54 rfl (lv_at hl 3 rfl) ?_
              refine mq_ge (x := j) (y := k) (tgt := 86) (by omega) (by omega) hx hb dX2_walk_55 (by decide) (fun c5 => ?_) (fun c5 => ?_)
              · have e : j = k := by omega
                subst e
                refine lv_aload_n hx hb dX2_walk_86 rfl (lv_at hl 0 rfl) ?_
                refine va_get (D := D) (ci := 2) (v := .ref hu) (C := RX2) (T := TX2) (N := 5) hx hb hts hi_RX2 hown hK hP 0 rfl rfl 2 (by decide) hf_21 (fun _ h9 => h9) rfl dX2_walk_87 ?_
                refine va_get (D := D) (ci := 0) (v := .int (((ob_walk a z j u la).1).2.2.2.2.2.2.2.2.2.2)) (C := RX0) (T := TX0) (N := 11) hx hb hts hi_RX0 hown hK hP 3 rfl rfl 10 (by decide) hf_61 (fun _ h9 => h9) rfl dX2_walk_90 ?_
                refine lv_iload hx hb dX2_walk_93 (lv_at hl 4 rfl) ?_
                refine lv_isub (x := ((ob_walk a z j u la).1).2.2.2.2.2.2.2.2.2.2) (y := u.2.2.2.2.2.2.2.2.2.2) hx hb dX2_walk_95 ?_
                exact CtI.ret hQ hx hb hr hlk hK hP hD hS dX2_walk_96 rfl rfl
              · obtain ⟨hwb, hwl⟩ := ob_walk_bd (z := z) ha hbd hla j
                have haj := adr_lt z ha j
                refine lv_aload_n hx hb dX2_walk_58 rfl (lv_at hl 0 rfl) ?_
                refine lv_iload hx hb dX2_walk_59 (lv_at hl 5 rfl) ?_
                refine CtI.callS (n := 1) (wc := ([] : va_W)) (wr := (OBo cyI h b1 b2 hu ht hw wr hm) ++ ((CBc cyI cyZ hu u1 u2 u3 ((ob_walk a z j u la).1)) ++ ((CBc cyI cyZ ht t1 t2 t3 tr) ++ (LAc cyI cyZ hw l1 l2 ((ob_walk a z j u la).2))))) (w1 := ([] : va_W)) (ws' := (OBo cyI h b1 b2 hu ht hw wr hm) ++ ((CBc cyI cyZ hu u1 u2 u3 ((ob_walk a z j u la).1)) ++ ((CBc cyI cyZ ht t1 t2 t3 tr) ++ (LAc cyI cyZ hw l1 l2 ((ob_walk a z j u la).2))))) (isC := []) (isR := [0, 1, 2, 3, 4, 5, 6, 7, 8, 9, 10, 11, 12, 13]) (ps := [0, 1, 2, 3, 4, 5, 6, 7, 8, 9, 10, 11, 12, 13]) (As := [.int (nI (adr a z j))]) (rest := [.ref h]) (c_lineOf l D cyI cyZ cyJ (adr a z j) (by omega)) ⟨hx, hb, hown, hts⟩ gX2_walk_X2_lineOf rfl ⟨by decide, by decide, by decide +kernel⟩ ⟨Nat.le_of_ble_eq_true rfl, Nat.le_of_ble_eq_true rfl⟩ ⟨rfl, rfl⟩ hml hl.1 hK hP hD hS hA ⟨rfl, rfl, rfl, rfl, rfl, rfl, rfl⟩ rfl rfl (Nat.le_of_ble_eq_true rfl) ⟨Nat.zero_le _, Nat.zero_le _⟩ dX2_walk_61 (fun H locs hP hD hS => ?_)
                refine lv_iconst (v := nI 0) hx hb dX2_walk_64 (by decide) ?_
                refine CtV.callV (n := 2) (q0 := 0) (ci := 2) (wc := (OBo cyI h b1 b2 hu ht hw wr hm) ++ ((CBc cyI cyZ hu u1 u2 u3 ((ob_walk a z j u la).1)) ++ ((CBc cyI cyZ ht t1 t2 t3 tr) ++ (LAc cyI cyZ hw l1 l2 ((ob_walk a z j u la).2))))) (wr := ([] : va_W)) (w1 := (OBo cyI h b1 b2 hu ht hw wr hm) ++ ((CBc cyI cyZ hu u1 u2 u3 (cb_acc (adr a z j / 4) false ((ob_walk a z j u la).1))) ++ ((CBc cyI cyZ ht t1 t2 t3 tr) ++ (LAc cyI cyZ hw l1 l2 (la_add (adr a z j / 4) false ((ob_walk a z j u la).2)))))) (ws' := (OBo cyI h b1 b2 hu ht hw wr hm) ++ ((CBc cyI cyZ hu u1 u2 u3 (cb_acc (adr a z j / 4) false ((ob_walk a z j u la).1))) ++ ((CBc cyI cyZ ht t1 t2 t3 tr) ++ (LAc cyI cyZ hw l1 l2 (la_add (adr a z j / 4) false ((ob_walk a z j u la).2)))))) (isC := [0, 1, 2, 3, 4, 5, 6, 7, 8, 9, 10, 11, 12, 13]) (isR := []) (ps := [0, 1, 2, 3, 4, 5, 6, 7, 8, 9, 10, 11, 12, 13]) (As := [.int (nI (adr a z j / 4)), .int (bI false)]) (rest := []) (c_ask l D cyI cyZ cyJ h b1 b2 hu u1 u2 u3 ht t1 t2 t3 hw l1 l2 wr hm ((ob_walk a z j u la).1) tr ((ob_walk a z j u la).2) (adr a z j / 4) false hwb (by omega) hwl) ⟨hx, hb, hown, hts⟩ gX2_walk_X2_ask rfl ⟨rfl, by decide, by decide, by decide +kernel⟩ ⟨Nat.le_of_ble_eq_true rfl, Nat.le_of_ble_eq_true rfl⟩ ⟨rfl, rfl⟩ hml hl.1 hK hP hD hS hA ⟨rfl, rfl, rfl, rfl, rfl, rfl, rfl⟩ rfl ⟨rfl, rfl⟩ rfl rfl (Nat.le_of_ble_eq_true rfl) ⟨Nat.zero_le _, Nat.zero_le _⟩ dX2_walk_65 (fun H locs hP hD hS => ?_)
                refine lv_iload hx hb dX2_walk_68 (lv_at hl 5 rfl) ?_
                refine lv_iload_n hx hb dX2_walk_70 rfl (lv_at hl 2 rfl) ?_
                refine lv_iadd (x := nI (adr a z j)) (y := Int32.ofInt z) hx hb dX2_walk_71 ?_
                refine lv_sipush (v := nI 1024) hx hb dX2_walk_72 (by decide) ?_
                refine CtI.callS (n := 2) (wc := ([] : va_W)) (wr := (OBo cyI h b1 b2 hu ht hw wr hm) ++ ((CBc cyI cyZ hu u1 u2 u3 (cb_acc (adr a z j / 4) false ((ob_walk a z j u la).1))) ++ ((CBc cyI cyZ ht t1 t2 t3 tr) ++ (LAc cyI cyZ hw l1 l2 (la_add (adr a z j / 4) false ((ob_walk a z j u la).2)))))) (w1 := ([] : va_W)) (ws' := (OBo cyI h b1 b2 hu ht hw wr hm) ++ ((CBc cyI cyZ hu u1 u2 u3 (cb_acc (adr a z j / 4) false ((ob_walk a z j u la).1))) ++ ((CBc cyI cyZ ht t1 t2 t3 tr) ++ (LAc cyI cyZ hw l1 l2 (la_add (adr a z j / 4) false ((ob_walk a z j u la).2)))))) (isC := []) (isR := [0, 1, 2, 3, 4, 5, 6, 7, 8, 9, 10, 11, 12, 13]) (ps := [0, 1, 2, 3, 4, 5, 6, 7, 8, 9, 10, 11, 12, 13]) (As := [.int (nI (adr a z j) + Int32.ofInt z), .int (nI 1024)]) (rest := []) (c_fm l D cyI cyZ cyJ (adr a z j) z haj hz1 hz2) ⟨hx, hb, hown, hts⟩ gX2_walk_J9_floorMod_7cf53 rfl ⟨by decide, by decide, by decide +kernel⟩ ⟨Nat.le_of_ble_eq_true rfl, Nat.le_of_ble_eq_true rfl⟩ ⟨rfl, rfl⟩ hml hl.1 hK hP hD hS hA ⟨rfl, rfl, rfl, rfl, rfl, rfl, rfl⟩ rfl rfl (Nat.le_of_ble_eq_true rfl) ⟨Nat.zero_le _, Nat.zero_le _⟩ dX2_walk_75 (fun H locs hP hD hS => ?_)
                refine lv_istore (lv' := [(5, .int (nI (nxt (adr a z j) z))), (0, .ref h), (1, .int (nI a)), (2, .int (Int32.ofInt z)), (3, .int (nI k)), (4, .int u.2.2.2.2.2.2.2.2.2.2), (6, .int (nI j))]) hx hb dX2_walk_78 hl (by decide) rfl (fun ls hl => ?_)
                refine lv_iinc (v := nI (j + 1)) (lv' := [(6, .int (nI (j + 1))), (5, .int (nI (nxt (adr a z j) z))), (0, .ref h), (1, .int (nI a)), (2, .int (Int32.ofInt z)), (3, .int (nI k)), (4, .int u.2.2.2.2.2.2.2.2.2.2)]) hx hb dX2_walk_80 hl (k := 6) rfl (inc1 _) (by decide) rfl (fun ls hl => ?_)
                refine lv_goto (tgt := 52) hx hb dX2_walk_83 (by decide) ?_
                exact ih (j + 1) _ _ _ (by omega) (by omega) hP hD hS (lv_sub hl [2, 3, 4, 5, 6, 1, 0] rfl)
          exact LP52 _ 0 _ _ _ (Nat.zero_le _) (Nat.lt_succ_self _) hP hD hS (lv_sub hl [3, 4, 5, 6, 2, 1, 0] rfl)
        · exact absurd (nI_le hk2 (by decide)) c4
abbrev rmX2_costOfTrial : Room := { frames := 3, cells := 0, slots := 0, locals := 68 }
set_option maxRecDepth 100000 in
set_option maxHeartbeats 4000000 in
theorem c_costOfTrial (l : Launch) (D : va_G) (cyI cyZ cyJ : ClassId) (h b1 b2 hu u1 u2 u3 ht t1 t2 t3 hw l1 l2 : Nat) (wr hm : Nat → Int32) (u tr : CBu) (la : LAu) (s' p' : Nat) (hla : la_bd la) (hs : s' = 1 ∨ s' = 2 ∨ s' = 4 ∨ s' = 8 ∨ s' = 16) (hp : p' ≤ 8) : CtI l yX2_costOfTrial wsX2_costOfTrial rmX2_costOfTrial D (T3 cyI cyZ cyJ) [.ref h, .int (nI s'), .int (nI p')] ((OBo cyI h b1 b2 hu ht hw wr hm) ++ ((CBc cyI cyZ hu u1 u2 u3 u) ++ ((CBc cyI cyZ ht t1 t2 t3 tr) ++ (LAc cyI cyZ hw l1 l2 la)))) (cb_co (la_trial la s' p' tr) - cb_co tr) ((OBo cyI h b1 b2 hu ht hw wr hm) ++ ((CBc cyI cyZ hu u1 u2 u3 u) ++ ((CBc cyI cyZ ht t1 t2 t3 (la_trial la s' p' tr)) ++ (LAc cyI cyZ hw l1 l2 la)))) := by
  refine CtI.of (cc := cX2_costOfTrial) (maxL := 6) (ret := (some .int)) (lv0 := [(0, .ref h), (1, .int (nI s')), (2, .int (nI p'))]) (by decide) rfl (Nat.le_of_ble_eq_true rfl) rfl ?_
  intro p e s m below meth c A ls args Q hx hb hml hr hlk hts hown hK hP hA hD hS hl hQ
  have hown : s.vm.findClass RX2 = some m.cls := hown
  have hi_RX0 : ∀ w ∈ wsX00, w ∈ wsX2_costOfTrial := by decide +kernel
  have hi_RX1 : ∀ w ∈ wsX10, w ∈ wsX2_costOfTrial := by decide +kernel
  have hi_RX2 : ∀ w ∈ wsX20, w ∈ wsX2_costOfTrial := by decide +kernel
  have hf_25 := hts (.fieldLink RX2 25 "OutcastBench" "trial" "LOutcastBench$CacheAndBench;") (by decide +kernel)
  have hf_31 := hts (.fieldLink RX2 31 "OutcastBench" "last" "LOutcastBench$LastAccesses;") (by decide +kernel)
  have hf_61 := hts (.fieldLink RX2 61 "OutcastBench$CacheAndBench" "costSoFar" "I") (by decide +kernel)
  have hf_151 := hts (.fieldLink RX2 151 "OutcastBench$LastAccesses" "count" "I") (by decide +kernel)
  have hf_157 := hts (.fieldLink RX2 157 "OutcastBench$LastAccesses" "lines" "[I") (by decide +kernel)
  have hf_158 := hts (.fieldLink RX2 158 "OutcastBench$LastAccesses" "writes" "[Z") (by decide +kernel)
  refine lv_aload_n hx hb dX2_costOfTrial_0 rfl (lv_at hl 0 rfl) ?_
  refine va_get (D := D) (ci := 2) (v := .ref ht) (C := RX2) (T := TX2) (N := 5) hx hb hts hi_RX2 hown hK hP 0 rfl rfl 3 (by decide) hf_25 (fun _ h9 => h9) rfl dX2_costOfTrial_1 ?_
  refine lv_iload_n hx hb dX2_costOfTrial_4 rfl (lv_at hl 1 rfl) ?_
  refine lv_iload_n hx hb dX2_costOfTrial_5 rfl (lv_at hl 2 rfl) ?_
  refine CtV.callV (n := 2) (q0 := 0) (ci := 0) (wc := CBc cyI cyZ ht t1 t2 t3 tr) (wr := (OBo cyI h b1 b2 hu ht hw wr hm) ++ ((CBc cyI cyZ hu u1 u2 u3 u) ++ (LAc cyI cyZ hw l1 l2 la))) (w1 := CBc cyI cyZ ht t1 t2 t3 (cb_empty s' p' tr)) (ws' := (OBo cyI h b1 b2 hu ht hw wr hm) ++ ((CBc cyI cyZ hu u1 u2 u3 u) ++ ((CBc cyI cyZ ht t1 t2 t3 (cb_empty s' p' tr)) ++ (LAc cyI cyZ hw l1 l2 la)))) (isC := [7, 8, 9, 10]) (isR := [0, 1, 2, 3, 4, 5, 6, 11, 12, 13]) (ps := [0, 1, 2, 3, 4, 5, 6, 10, 11, 12, 13, 7, 8, 9]) (As := [.int (nI s'), .int (nI p')]) (rest := []) (c_startEmptyU l D cyI cyZ cyJ ht t1 t2 t3 tr s' p') ⟨hx, hb, hown, hts⟩ gX2_costOfTrial_X0_startEmpty rfl ⟨rfl, by decide, by decide, by decide +kernel⟩ ⟨Nat.le_of_ble_eq_true rfl, Nat.le_of_ble_eq_true rfl⟩ ⟨rfl, rfl⟩ hml hl.1 hK hP hD hS hA ⟨rfl, rfl, rfl, rfl, rfl, rfl, rfl⟩ rfl ⟨rfl, rfl⟩ rfl rfl (Nat.le_of_ble_eq_true rfl) ⟨Nat.zero_le _, Nat.zero_le _⟩ dX2_costOfTrial_6 (fun H locs hP hD hS => ?_)
  refine lv_aload_n hx hb dX2_costOfTrial_9 rfl (lv_at hl 0 rfl) ?_
  refine va_get (D := D) (ci := 2) (v := .ref ht) (C := RX2) (T := TX2) (N := 5) hx hb hts hi_RX2 hown hK hP 0 rfl rfl 3 (by decide) hf_25 (fun _ h9 => h9) rfl dX2_costOfTrial_10 ?_
  refine va_get (D := D) (ci := 0) (v := .int ((cb_empty s' p' tr).2.2.2.2.2.2.2.2.2.2)) (C := RX0) (T := TX0) (N := 11) hx hb hts hi_RX0 hown hK hP 7 rfl rfl 10 (by decide) hf_61 (fun _ h9 => h9) rfl dX2_costOfTrial_13 ?_
  refine lv_istore_n (lv' := [(3, .int ((cb_empty s' p' tr).2.2.2.2.2.2.2.2.2.2)), (0, .ref h), (1, .int (nI s')), (2, .int (nI p'))]) hx hb dX2_costOfTrial_16 rfl hl (by decide) rfl (fun ls hl => ?_)
  refine lv_iconst (v := nI 0) hx hb dX2_costOfTrial_17 (by decide) ?_
  refine lv_istore (lv' := [(4, .int (nI 0)), (3, .int ((cb_empty s' p' tr).2.2.2.2.2.2.2.2.2.2)), (0, .ref h), (1, .int (nI s')), (2, .int (nI p'))]) hx hb dX2_costOfTrial_18 hl (by decide) rfl (fun ls hl => ?_)
  have LP20 : ∀ (fu : Nat) (k : Nat) (H : Heap) (locs : List Loc) (ls : Array Slot), (k ≤ la.2.2.1) → la.2.2.1 - k < fu → va_P D vwCl ((OBo cyI h b1 b2 hu ht hw wr hm) ++ ((CBc cyI cyZ hu u1 u2 u3 u) ++ ((CBc cyI cyZ ht t1 t2 t3 (la_try la k (cb_empty s' p' tr))) ++ (LAc cyI cyZ hw l1 l2 la)))) H → va_D A ((OBo cyI h b1 b2 hu ht hw wr hm) ++ ((CBc cyI cyZ hu u1 u2 u3 u) ++ ((CBc cyI cyZ ht t1 t2 t3 (la_try la k (cb_empty s' p' tr))) ++ (LAc cyI cyZ hw l1 l2 la)))) → va_S A s.heap H locs → lv_has ls 6 [(0, .ref h), (1, .int (nI s')), (2, .int (nI p')), (3, .int (cb_co tr)), (4, .int (nI k))] → W p l e rmX2_costOfTrial s m args below meth c H locs 0 0 Q (F0 m 20 ls []) := by
    intro fu
    induction fu with
    | zero =>
      intro k H locs ls hkl hfu
      exact absurd hfu (Nat.not_lt_zero _)
    | succ fu ih =>
      intro k H locs ls hkl hfu hP hD hS hl
      refine lv_iload hx hb dX2_costOfTrial_20 (lv_at hl 4 rfl) ?_
      refine lv_aload_n hx hb dX2_costOfTrial_22 rfl (lv_at hl 0 rfl) ?_
      refine va_get (D := D) (ci := 2) (v := .ref hw) (C := RX2) (T := TX2) (N := 5) hx hb hts hi_RX2 hown hK hP 0 rfl rfl 4 (by decide) hf_31 (fun _ h9 => h9) rfl dX2_costOfTrial_23 ?_
      refine va_get (D := D) (ci := 1) (v := .int (nI la.2.2.1)) (C := RX1) (T := TX1) (N := 4) hx hb hts hi_RX1 hown hK hP 11 rfl rfl 2 (by decide) hf_151 (fun _ h9 => h9) rfl dX2_costOfTrial_26 ?_
      refine mq_ge (x := k) (y := la.2.2.1) (tgt := 76) (by have : la.2.2.1 ≤ 150 := hla.1; omega) (by have : la.2.2.1 ≤ 150 := hla.1; omega) hx hb dX2_costOfTrial_29 (by decide) (fun c1 => ?_) (fun c1 => ?_)
      · have e : k = la.2.2.1 := by omega
        refine lv_aload_n hx hb dX2_costOfTrial_76 rfl (lv_at hl 0 rfl) ?_
        refine va_get (D := D) (ci := 2) (v := .ref ht) (C := RX2) (T := TX2) (N := 5) hx hb hts hi_RX2 hown hK hP 0 rfl rfl 3 (by decide) hf_25 (fun _ h9 => h9) rfl dX2_costOfTrial_77 ?_
        refine va_get (D := D) (ci := 0) (v := .int ((la_try la k (cb_empty s' p' tr)).2.2.2.2.2.2.2.2.2.2)) (C := RX0) (T := TX0) (N := 11) hx hb hts hi_RX0 hown hK hP 7 rfl rfl 10 (by decide) hf_61 (fun _ h9 => h9) rfl dX2_costOfTrial_80 ?_
        refine lv_iload_n hx hb dX2_costOfTrial_83 rfl (lv_at hl 3 rfl) ?_
        refine lv_isub (x := (la_try la k (cb_empty s' p' tr)).2.2.2.2.2.2.2.2.2.2) (y := cb_co tr) hx hb dX2_costOfTrial_84 ?_
        exact CtI.ret hQ hx hb hr hlk hK hP hD hS dX2_costOfTrial_85 (by rw [e]; rfl) (by rw [e]; rfl)
      · have hlc : la.2.2.1 ≤ 150 := hla.1
        have hsl := la_slot_lt k la
        have htb := cb_bd_try (u := cb_empty s' p' tr) hla (cb_bd_empty hs hp) k
        refine lv_aload_n hx hb dX2_costOfTrial_32 rfl (lv_at hl 0 rfl) ?_
        refine va_get (D := D) (ci := 2) (v := .ref hw) (C := RX2) (T := TX2) (N := 5) hx hb hts hi_RX2 hown hK hP 0 rfl rfl 4 (by decide) hf_31 (fun _ h9 => h9) rfl dX2_costOfTrial_33 ?_
        refine lv_iload hx hb dX2_costOfTrial_36 (lv_at hl 4 rfl) ?_
        refine CtI.callV (n := 1) (q0 := 0) (ci := 1) (wc := LAc cyI cyZ hw l1 l2 la) (wr := (OBo cyI h b1 b2 hu ht hw wr hm) ++ ((CBc cyI cyZ hu u1 u2 u3 u) ++ (CBc cyI cyZ ht t1 t2 t3 (la_try la k (cb_empty s' p' tr))))) (w1 := LAc cyI cyZ hw l1 l2 la) (ws' := (OBo cyI h b1 b2 hu ht hw wr hm) ++ ((CBc cyI cyZ hu u1 u2 u3 u) ++ ((CBc cyI cyZ ht t1 t2 t3 (la_try la k (cb_empty s' p' tr))) ++ (LAc cyI cyZ hw l1 l2 la)))) (isC := [11, 12, 13]) (isR := [0, 1, 2, 3, 4, 5, 6, 7, 8, 9, 10]) (ps := [0, 1, 2, 3, 4, 5, 6, 7, 8, 9, 10, 11, 12, 13]) (As := [.int (nI k)]) (rest := []) (c_slotOfU l D cyI cyZ cyJ hw l1 l2 la k hla (by omega)) ⟨hx, hb, hown, hts⟩ gX2_costOfTrial_X1_slotOf rfl ⟨rfl, by decide, by decide, by decide +kernel⟩ ⟨Nat.le_of_ble_eq_true rfl, Nat.le_of_ble_eq_true rfl⟩ ⟨rfl, rfl⟩ hml hl.1 hK hP hD hS hA ⟨rfl, rfl, rfl, rfl, rfl, rfl, rfl⟩ rfl ⟨rfl, rfl⟩ rfl rfl (Nat.le_of_ble_eq_true rfl) ⟨Nat.zero_le _, Nat.zero_le _⟩ dX2_costOfTrial_38 (fun H locs hP hD hS => ?_)
        refine lv_istore (lv' := [(5, .int (nI (la_slot k la))), (0, .ref h), (1, .int (nI s')), (2, .int (nI p')), (3, .int (cb_co tr)), (4, .int (nI k))]) hx hb dX2_costOfTrial_41 hl (by decide) rfl (fun ls hl => ?_)
        refine lv_aload_n hx hb dX2_costOfTrial_43 rfl (lv_at hl 1 rfl) ?_
        refine va_get (D := D) (ci := 2) (v := .ref ht) (C := RX2) (T := TX2) (N := 5) hx hb hts hi_RX2 hown hK hP 0 rfl rfl 3 (by decide) hf_25 (fun _ h9 => h9) rfl dX2_costOfTrial_44 ?_
        refine lv_aload_n hx hb dX2_costOfTrial_47 rfl (lv_at hl 1 rfl) ?_
        refine va_get (D := D) (ci := 2) (v := .ref hw) (C := RX2) (T := TX2) (N := 5) hx hb hts hi_RX2 hown hK hP 0 rfl rfl 4 (by decide) hf_31 (fun _ h9 => h9) rfl dX2_costOfTrial_48 ?_
        refine va_get (D := D) (ci := 1) (v := .ref l1) (C := RX1) (T := TX1) (N := 4) hx hb hts hi_RX1 hown hK hP 11 rfl rfl 0 (by decide) hf_157 (fun _ h9 => h9) rfl dX2_costOfTrial_51 ?_
        refine lv_iload hx hb dX2_costOfTrial_54 (lv_at hl 0 rfl) ?_
        refine mq_ld (k := (la_slot k la)) nI la.1 hx hb hK hP 12 0 rfl rfl hsl (Nat.le_of_ble_eq_true rfl) dX2_costOfTrial_56 ?_
        refine lv_aload_n hx hb dX2_costOfTrial_57 rfl (lv_at hl 1 rfl) ?_
        refine va_get (D := D) (ci := 2) (v := .ref hw) (C := RX2) (T := TX2) (N := 5) hx hb hts hi_RX2 hown hK hP 0 rfl rfl 4 (by decide) hf_31 (fun _ h9 => h9) rfl dX2_costOfTrial_58 ?_
        refine va_get (D := D) (ci := 1) (v := .ref l2) (C := RX1) (T := TX1) (N := 4) hx hb hts hi_RX1 hown hK hP 11 rfl rfl 1 (by decide) hf_158 (fun _ h9 => h9) rfl dX2_costOfTrial_61 ?_
        refine lv_iload hx hb dX2_costOfTrial_64 (lv_at hl 0 rfl) ?_
        refine mq_zld (k := (la_slot k la)) la.2.1 hx hb hK hP 13 1 rfl rfl hsl (Nat.le_of_ble_eq_true rfl) dX2_costOfTrial_66 ?_
        refine CtV.callV (n := 2) (q0 := 0) (ci := 0) (wc := CBc cyI cyZ ht t1 t2 t3 (la_try la k (cb_empty s' p' tr))) (wr := (OBo cyI h b1 b2 hu ht hw wr hm) ++ ((CBc cyI cyZ hu u1 u2 u3 u) ++ (LAc cyI cyZ hw l1 l2 la))) (w1 := CBc cyI cyZ ht t1 t2 t3 (cb_acc (la.1 (la_slot k la)) (la.2.1 (la_slot k la)) (la_try la k (cb_empty s' p' tr)))) (ws' := (OBo cyI h b1 b2 hu ht hw wr hm) ++ ((CBc cyI cyZ hu u1 u2 u3 u) ++ ((CBc cyI cyZ ht t1 t2 t3 (cb_acc (la.1 (la_slot k la)) (la.2.1 (la_slot k la)) (la_try la k (cb_empty s' p' tr)))) ++ (LAc cyI cyZ hw l1 l2 la)))) (isC := [7, 8, 9, 10]) (isR := [0, 1, 2, 3, 4, 5, 6, 11, 12, 13]) (ps := [0, 1, 2, 3, 4, 5, 6, 10, 11, 12, 13, 7, 8, 9]) (As := [.int (nI (la.1 (la_slot k la))), .int (bI (la.2.1 (la_slot k la)))]) (rest := []) (c_accU l D cyI cyZ cyJ ht t1 t2 t3 (la_try la k (cb_empty s' p' tr)) (la.1 (la_slot k la)) (la.2.1 (la_slot k la)) htb (hla.2.2 _ hsl)) ⟨hx, hb, hown, hts⟩ gX2_costOfTrial_X0_access rfl ⟨rfl, by decide, by decide, by decide +kernel⟩ ⟨Nat.le_of_ble_eq_true rfl, Nat.le_of_ble_eq_true rfl⟩ ⟨rfl, rfl⟩ hml hl.1 hK hP hD hS hA ⟨rfl, rfl, rfl, rfl, rfl, rfl, rfl⟩ rfl ⟨rfl, rfl⟩ rfl rfl (Nat.le_of_ble_eq_true rfl) ⟨Nat.zero_le _, Nat.zero_le _⟩ dX2_costOfTrial_67 (fun H locs hP hD hS => ?_)
        refine lv_iinc (v := nI (k + 1)) (lv' := [(4, .int (nI (k + 1))), (5, .int (nI (la_slot k la))), (0, .ref h), (1, .int (nI s')), (2, .int (nI p')), (3, .int (cb_co tr))]) hx hb dX2_costOfTrial_70 hl (k := 5) rfl (inc1 _) (by decide) rfl (fun ls hl => ?_)
        refine lv_goto (tgt := 20) hx hb dX2_costOfTrial_73 (by decide) ?_
        exact ih (k + 1) _ _ _ (by omega) (by omega) hP hD hS (lv_sub hl [2, 3, 4, 5, 0] rfl)
  exact LP20 _ 0 _ _ _ (Nat.zero_le _) (Nat.lt_succ_self _) hP hD hS (lv_sub hl [2, 3, 4, 1, 0] rfl)
abbrev rmX2_wouldCost : Room := { frames := 4, cells := 0, slots := 0, locals := 93 }
set_option maxRecDepth 100000 in
set_option maxHeartbeats 4000000 in
theorem c_wouldCost (l : Launch) (D : va_G) (cyI cyZ cyJ : ClassId) (h b1 b2 hu u1 u2 u3 ht t1 t2 t3 hw l1 l2 : Nat) (wr hm : Nat → Int32) (u tr : CBu) (la : LAu) (s' p' : Nat) (hla : la_bd la) (hs : s' = 1 ∨ s' = 2 ∨ s' = 4 ∨ s' = 8 ∨ s' = 16) (hp : p' ≤ 8) : CtI l yX2_wouldCost wsX2_wouldCost rmX2_wouldCost D (T3 cyI cyZ cyJ) [.ref h, .int (nI s'), .int (nI p')] ((OBo cyI h b1 b2 hu ht hw wr hm) ++ ((CBc cyI cyZ hu u1 u2 u3 u) ++ ((CBc cyI cyZ ht t1 t2 t3 tr) ++ (LAc cyI cyZ hw l1 l2 la)))) (cb_co (la_trial la s' p' tr) - cb_co tr) ((OBo cyI h b1 b2 hu ht hw wr hm) ++ ((CBc cyI cyZ hu u1 u2 u3 u) ++ ((CBc cyI cyZ ht t1 t2 t3 (la_trial la s' p' tr)) ++ (LAc cyI cyZ hw l1 l2 la)))) := by
  refine CtI.of (cc := cX2_wouldCost) (maxL := 3) (ret := (some .int)) (lv0 := [(0, .ref h), (1, .int (nI s')), (2, .int (nI p'))]) (by decide) rfl (Nat.le_of_ble_eq_true rfl) rfl ?_
  intro p e s m below meth c A ls args Q hx hb hml hr hlk hts hown hK hP hA hD hS hl hQ
  have hown : s.vm.findClass RX2 = some m.cls := hown
  refine lv_iload_n hx hb dX2_wouldCost_0 rfl (lv_at hl 1 rfl) ?_
  refine lv_iload_n hx hb dX2_wouldCost_1 rfl (lv_at hl 2 rfl) ?_
  refine CtV.callS (n := 2) (wc := ([] : va_W)) (wr := (OBo cyI h b1 b2 hu ht hw wr hm) ++ ((CBc cyI cyZ hu u1 u2 u3 u) ++ ((CBc cyI cyZ ht t1 t2 t3 tr) ++ (LAc cyI cyZ hw l1 l2 la)))) (w1 := ([] : va_W)) (ws' := (OBo cyI h b1 b2 hu ht hw wr hm) ++ ((CBc cyI cyZ hu u1 u2 u3 u) ++ ((CBc cyI cyZ ht t1 t2 t3 tr) ++ (LAc cyI cyZ hw l1 l2 la)))) (isC := []) (isR := [0, 1, 2, 3, 4, 5, 6, 7, 8, 9, 10, 11, 12, 13]) (ps := [0, 1, 2, 3, 4, 5, 6, 7, 8, 9, 10, 11, 12, 13]) (As := [.int (nI s'), .int (nI p')]) (rest := []) (c_requireSize l D cyI cyZ cyJ s' p' hs hp) ⟨hx, hb, hown, hts⟩ gX2_wouldCost_X2_requireSize rfl ⟨by decide, by decide, by decide +kernel⟩ ⟨Nat.le_of_ble_eq_true rfl, Nat.le_of_ble_eq_true rfl⟩ ⟨rfl, rfl⟩ hml hl.1 hK hP hD hS hA ⟨rfl, rfl, rfl, rfl, rfl, rfl, rfl⟩ rfl rfl (Nat.le_of_ble_eq_true rfl) ⟨Nat.zero_le _, Nat.zero_le _⟩ dX2_wouldCost_2 (fun H locs hP hD hS => ?_)
  refine lv_aload_n hx hb dX2_wouldCost_5 rfl (lv_at hl 0 rfl) ?_
  refine lv_iload_n hx hb dX2_wouldCost_6 rfl (lv_at hl 1 rfl) ?_
  refine lv_iload_n hx hb dX2_wouldCost_7 rfl (lv_at hl 2 rfl) ?_
  refine CtI.callV (n := 2) (q0 := 0) (ci := 2) (wc := (OBo cyI h b1 b2 hu ht hw wr hm) ++ ((CBc cyI cyZ hu u1 u2 u3 u) ++ ((CBc cyI cyZ ht t1 t2 t3 tr) ++ (LAc cyI cyZ hw l1 l2 la)))) (wr := ([] : va_W)) (w1 := (OBo cyI h b1 b2 hu ht hw wr hm) ++ ((CBc cyI cyZ hu u1 u2 u3 u) ++ ((CBc cyI cyZ ht t1 t2 t3 (la_trial la s' p' tr)) ++ (LAc cyI cyZ hw l1 l2 la)))) (ws' := (OBo cyI h b1 b2 hu ht hw wr hm) ++ ((CBc cyI cyZ hu u1 u2 u3 u) ++ ((CBc cyI cyZ ht t1 t2 t3 (la_trial la s' p' tr)) ++ (LAc cyI cyZ hw l1 l2 la)))) (isC := [0, 1, 2, 3, 4, 5, 6, 7, 8, 9, 10, 11, 12, 13]) (isR := []) (ps := [0, 1, 2, 3, 4, 5, 6, 7, 8, 9, 10, 11, 12, 13]) (As := [.int (nI s'), .int (nI p')]) (rest := []) (c_costOfTrial l D cyI cyZ cyJ h b1 b2 hu u1 u2 u3 ht t1 t2 t3 hw l1 l2 wr hm u tr la s' p' hla hs hp) ⟨hx, hb, hown, hts⟩ gX2_wouldCost_X2_costOfTrial rfl ⟨rfl, by decide, by decide, by decide +kernel⟩ ⟨Nat.le_of_ble_eq_true rfl, Nat.le_of_ble_eq_true rfl⟩ ⟨rfl, rfl⟩ hml hl.1 hK hP hD hS hA ⟨rfl, rfl, rfl, rfl, rfl, rfl, rfl⟩ rfl ⟨rfl, rfl⟩ rfl rfl (Nat.le_of_ble_eq_true rfl) ⟨Nat.zero_le _, Nat.zero_le _⟩ dX2_wouldCost_8 (fun H locs hP hD hS => ?_)
  exact CtI.ret hQ hx hb hr hlk hK hP hD hS dX2_wouldCost_11 rfl rfl
abbrev rmX2_bestPlaces : Room := { frames := 4, cells := 0, slots := 0, locals := 93 }
set_option maxRecDepth 100000 in
set_option maxHeartbeats 4000000 in
theorem c_bestPlaces (l : Launch) (D : va_G) (cyI cyZ cyJ : ClassId) (h b1 b2 hu u1 u2 u3 ht t1 t2 t3 hw l1 l2 : Nat) (wr hm : Nat → Int32) (u tr : CBu) (la : LAu) (hbd : cb_bd u) (hla : la_bd la) : CtI l yX2_bestPlaces wsX2_bestPlaces rmX2_bestPlaces D (T3 cyI cyZ cyJ) [.ref h] ((OBo cyI h b1 b2 hu ht hw wr hm) ++ ((CBc cyI cyZ hu u1 u2 u3 u) ++ ((CBc cyI cyZ ht t1 t2 t3 tr) ++ (LAc cyI cyZ hw l1 l2 la)))) (nI (la_best la u.1 8 tr).1) ((OBo cyI h b1 b2 hu ht hw wr hm) ++ ((CBc cyI cyZ hu u1 u2 u3 u) ++ ((CBc cyI cyZ ht t1 t2 t3 ((la_best la u.1 8 tr).2.2)) ++ (LAc cyI cyZ hw l1 l2 la)))) := by
  refine CtI.of (cc := cX2_bestPlaces) (maxL := 5) (ret := (some .int)) (lv0 := [(0, .ref h)]) (by decide) rfl (Nat.le_of_ble_eq_true rfl) rfl ?_
  intro p e s m below meth c A ls args Q hx hb hml hr hlk hts hown hK hP hA hD hS hl hQ
  have hown : s.vm.findClass RX2 = some m.cls := hown
  have hi_RX0 : ∀ w ∈ wsX00, w ∈ wsX2_bestPlaces := by decide +kernel
  have hi_RX2 : ∀ w ∈ wsX20, w ∈ wsX2_bestPlaces := by decide +kernel
  have hf_21 := hts (.fieldLink RX2 21 "OutcastBench" "actual" "LOutcastBench$CacheAndBench;") (by decide +kernel)
  have hf_98 := hts (.fieldLink RX2 98 "OutcastBench$CacheAndBench" "setCount" "I") (by decide +kernel)
  have hsc : u.1 = 1 ∨ u.1 = 2 ∨ u.1 = 4 ∨ u.1 = 8 ∨ u.1 = 16 := hbd.1
  refine lv_iconst (v := nI 0) hx hb dX2_bestPlaces_0 (by decide) ?_
  refine lv_istore_n (lv' := [(1, .int (nI 0)), (0, .ref h)]) hx hb dX2_bestPlaces_1 rfl hl (by decide) rfl (fun ls hl => ?_)
  refine lv_aload_n hx hb dX2_bestPlaces_2 rfl (lv_at hl 1 rfl) ?_
  refine lv_aload_n hx hb dX2_bestPlaces_3 rfl (lv_at hl 1 rfl) ?_
  refine va_get (D := D) (ci := 2) (v := .ref hu) (C := RX2) (T := TX2) (N := 5) hx hb hts hi_RX2 hown hK hP 0 rfl rfl 2 (by decide) hf_21 (fun _ h9 => h9) rfl dX2_bestPlaces_4 ?_
  refine va_get (D := D) (ci := 0) (v := .int (nI u.1)) (C := RX0) (T := TX0) (N := 11) hx hb hts hi_RX0 hown hK hP 3 rfl rfl 0 (by decide) hf_98 (fun _ h9 => h9) rfl dX2_bestPlaces_7 ?_
  refine lv_iconst (v := nI 0) hx hb dX2_bestPlaces_10 (by decide) ?_
  refine CtI.callV (n := 2) (q0 := 0) (ci := 2) (wc := (OBo cyI h b1 b2 hu ht hw wr hm) ++ ((CBc cyI cyZ hu u1 u2 u3 u) ++ ((CBc cyI cyZ ht t1 t2 t3 tr) ++ (LAc cyI cyZ hw l1 l2 la)))) (wr := ([] : va_W)) (w1 := (OBo cyI h b1 b2 hu ht hw wr hm) ++ ((CBc cyI cyZ hu u1 u2 u3 u) ++ ((CBc cyI cyZ ht t1 t2 t3 (la_trial la u.1 0 tr)) ++ (LAc cyI cyZ hw l1 l2 la)))) (ws' := (OBo cyI h b1 b2 hu ht hw wr hm) ++ ((CBc cyI cyZ hu u1 u2 u3 u) ++ ((CBc cyI cyZ ht t1 t2 t3 (la_trial la u.1 0 tr)) ++ (LAc cyI cyZ hw l1 l2 la)))) (isC := [0, 1, 2, 3, 4, 5, 6, 7, 8, 9, 10, 11, 12, 13]) (isR := []) (ps := [0, 1, 2, 3, 4, 5, 6, 7, 8, 9, 10, 11, 12, 13]) (As := [.int (nI u.1), .int (nI 0)]) (rest := []) (c_costOfTrial l D cyI cyZ cyJ h b1 b2 hu u1 u2 u3 ht t1 t2 t3 hw l1 l2 wr hm u tr la u.1 0 hla hsc (Nat.zero_le _)) ⟨hx, hb, hown, hts⟩ gX2_bestPlaces_X2_costOfTrial rfl ⟨rfl, by decide, by decide, by decide +kernel⟩ ⟨Nat.le_of_ble_eq_true rfl, Nat.le_of_ble_eq_true rfl⟩ ⟨rfl, rfl⟩ hml hl.1 hK hP hD hS hA ⟨rfl, rfl, rfl, rfl, rfl, rfl, rfl⟩ rfl ⟨rfl, rfl⟩ rfl rfl (Nat.le_of_ble_eq_true rfl) ⟨Nat.zero_le _, Nat.zero_le _⟩ dX2_bestPlaces_11 (fun H locs hP hD hS => ?_)
  refine lv_istore_n (lv' := [(2, .int (cb_co (la_trial la u.1 0 tr) - cb_co tr)), (1, .int (nI 0)), (0, .ref h)]) hx hb dX2_bestPlaces_14 rfl hl (by decide) rfl (fun ls hl => ?_)
  refine lv_iconst (v := nI 1) hx hb dX2_bestPlaces_15 (by decide) ?_
  refine lv_istore_n (lv' := [(3, .int (nI 1)), (2, .int (cb_co (la_trial la u.1 0 tr) - cb_co tr)), (1, .int (nI 0)), (0, .ref h)]) hx hb dX2_bestPlaces_16 rfl hl (by decide) rfl (fun ls hl => ?_)
  have LP17 : ∀ (fu : Nat) (k : Nat) (b : Nat) (y : Int32) (t : CBu) (H : Heap) (locs : List Loc) (ls : Array Slot), (k ≤ 8) → (la_best la u.1 k tr = (b, y, t)) → 8 - k < fu → va_P D vwCl ((OBo cyI h b1 b2 hu ht hw wr hm) ++ ((CBc cyI cyZ hu u1 u2 u3 u) ++ ((CBc cyI cyZ ht t1 t2 t3 t) ++ (LAc cyI cyZ hw l1 l2 la)))) H → va_D A ((OBo cyI h b1 b2 hu ht hw wr hm) ++ ((CBc cyI cyZ hu u1 u2 u3 u) ++ ((CBc cyI cyZ ht t1 t2 t3 t) ++ (LAc cyI cyZ hw l1 l2 la)))) → va_S A s.heap H locs → lv_has ls 5 [(0, .ref h), (1, .int (nI b)), (2, .int y), (3, .int (nI (k + 1)))] → W p l e rmX2_bestPlaces s m args below meth c H locs 0 0 Q (F0 m 17 ls []) := by
    intro fu
    induction fu with
    | zero =>
      intro k b y t H locs ls hk8 hbe hfu
      exact absurd hfu (Nat.not_lt_zero _)
    | succ fu ih =>
      intro k b y t H locs ls hk8 hbe hfu hP hD hS hl
      refine lv_iload_n hx hb dX2_bestPlaces_17 rfl (lv_at hl 3 rfl) ?_
      refine lv_bipush (v := nI 8) hx hb dX2_bestPlaces_18 (by decide) ?_
      refine mq_gt (x := (k + 1)) (y := 8) (tgt := 54) (by omega) (by omega) hx hb dX2_bestPlaces_20 (by decide) (fun c1 => ?_) (fun c1 => ?_)
      · have e : k = 8 := by omega
        subst e
        refine lv_iload_n hx hb dX2_bestPlaces_54 rfl (lv_at hl 1 rfl) ?_
        exact CtI.ret hQ hx hb hr hlk hK hP hD hS dX2_bestPlaces_55 (by rw [hbe]) (by rw [hbe])
      · refine lv_aload_n hx hb dX2_bestPlaces_23 rfl (lv_at hl 0 rfl) ?_
        refine lv_aload_n hx hb dX2_bestPlaces_24 rfl (lv_at hl 0 rfl) ?_
        refine va_get (D := D) (ci := 2) (v := .ref hu) (C := RX2) (T := TX2) (N := 5) hx hb hts hi_RX2 hown hK hP 0 rfl rfl 2 (by decide) hf_21 (fun _ h9 => h9) rfl dX2_bestPlaces_25 ?_
        refine va_get (D := D) (ci := 0) (v := .int (nI u.1)) (C := RX0) (T := TX0) (N := 11) hx hb hts hi_RX0 hown hK hP 3 rfl rfl 0 (by decide) hf_98 (fun _ h9 => h9) rfl dX2_bestPlaces_28 ?_
        refine lv_iload_n hx hb dX2_bestPlaces_31 rfl (lv_at hl 3 rfl) ?_
        refine CtI.callV (n := 2) (q0 := 0) (ci := 2) (wc := (OBo cyI h b1 b2 hu ht hw wr hm) ++ ((CBc cyI cyZ hu u1 u2 u3 u) ++ ((CBc cyI cyZ ht t1 t2 t3 t) ++ (LAc cyI cyZ hw l1 l2 la)))) (wr := ([] : va_W)) (w1 := (OBo cyI h b1 b2 hu ht hw wr hm) ++ ((CBc cyI cyZ hu u1 u2 u3 u) ++ ((CBc cyI cyZ ht t1 t2 t3 (la_trial la u.1 (k + 1) t)) ++ (LAc cyI cyZ hw l1 l2 la)))) (ws' := (OBo cyI h b1 b2 hu ht hw wr hm) ++ ((CBc cyI cyZ hu u1 u2 u3 u) ++ ((CBc cyI cyZ ht t1 t2 t3 (la_trial la u.1 (k + 1) t)) ++ (LAc cyI cyZ hw l1 l2 la)))) (isC := [0, 1, 2, 3, 4, 5, 6, 7, 8, 9, 10, 11, 12, 13]) (isR := []) (ps := [0, 1, 2, 3, 4, 5, 6, 7, 8, 9, 10, 11, 12, 13]) (As := [.int (nI u.1), .int (nI (k + 1))]) (rest := []) (c_costOfTrial l D cyI cyZ cyJ h b1 b2 hu u1 u2 u3 ht t1 t2 t3 hw l1 l2 wr hm u t la u.1 (k + 1) hla hsc (by omega)) ⟨hx, hb, hown, hts⟩ gX2_bestPlaces_X2_costOfTrial rfl ⟨rfl, by decide, by decide, by decide +kernel⟩ ⟨Nat.le_of_ble_eq_true rfl, Nat.le_of_ble_eq_true rfl⟩ ⟨rfl, rfl⟩ hml hl.1 hK hP hD hS hA ⟨rfl, rfl, rfl, rfl, rfl, rfl, rfl⟩ rfl ⟨rfl, rfl⟩ rfl rfl (Nat.le_of_ble_eq_true rfl) ⟨Nat.zero_le _, Nat.zero_le _⟩ dX2_bestPlaces_32 (fun H locs hP hD hS => ?_)
        refine lv_istore (lv' := [(4, .int (cb_co (la_trial la u.1 (k + 1) t) - cb_co t)), (0, .ref h), (1, .int (nI b)), (2, .int y), (3, .int (nI (k + 1)))]) hx hb dX2_bestPlaces_35 hl (by decide) rfl (fun ls hl => ?_)
        refine lv_iload hx hb dX2_bestPlaces_37 (lv_at hl 0 rfl) ?_
        refine lv_iload_n hx hb dX2_bestPlaces_39 rfl (lv_at hl 3 rfl) ?_
        refine lv_icmp_ge (x := cb_co (la_trial la u.1 (k + 1) t) - cb_co t) (y := y) (tgt := 48) hx hb dX2_bestPlaces_40 (by decide) (fun c2 => ?_) (fun c2 => ?_)
        · refine lv_iinc (v := nI (k + 1 + 1)) (lv' := [(3, .int (nI (k + 1 + 1))), (4, .int (cb_co (la_trial la u.1 (k + 1) t) - cb_co t)), (0, .ref h), (1, .int (nI b)), (2, .int y)]) hx hb dX2_bestPlaces_48 hl (k := 4) rfl (inc1 _) (by decide) rfl (fun ls hl => ?_)
          refine lv_goto (tgt := 17) hx hb dX2_bestPlaces_51 (by decide) ?_
          exact ih (k + 1) b y (la_trial la u.1 (k + 1) t) _ _ _ (by omega) (by unfold la_best; rw [hbe]; dsimp only; rw [if_neg (Int32.not_lt.mpr c2)]) (by omega) hP hD hS (lv_sub hl [2, 3, 4, 0] rfl)
        · refine lv_iload_n hx hb dX2_bestPlaces_43 rfl (lv_at hl 4 rfl) ?_
          refine lv_istore_n (lv' := [(1, .int (nI (k + 1))), (4, .int (cb_co (la_trial la u.1 (k + 1) t) - cb_co t)), (0, .ref h), (2, .int y), (3, .int (nI (k + 1)))]) hx hb dX2_bestPlaces_44 rfl hl (by decide) rfl (fun ls hl => ?_)
          refine lv_iload hx hb dX2_bestPlaces_45 (lv_at hl 1 rfl) ?_
          refine lv_istore_n (lv' := [(2, .int (cb_co (la_trial la u.1 (k + 1) t) - cb_co t)), (1, .int (nI (k + 1))), (4, .int (cb_co (la_trial la u.1 (k + 1) t) - cb_co t)), (0, .ref h), (3, .int (nI (k + 1)))]) hx hb dX2_bestPlaces_47 rfl hl (by decide) rfl (fun ls hl => ?_)
          refine lv_iinc (v := nI (k + 1 + 1)) (lv' := [(3, .int (nI (k + 1 + 1))), (2, .int (cb_co (la_trial la u.1 (k + 1) t) - cb_co t)), (1, .int (nI (k + 1))), (4, .int (cb_co (la_trial la u.1 (k + 1) t) - cb_co t)), (0, .ref h)]) hx hb dX2_bestPlaces_48 hl (k := 4) rfl (inc1 _) (by decide) rfl (fun ls hl => ?_)
          refine lv_goto (tgt := 17) hx hb dX2_bestPlaces_51 (by decide) ?_
          exact ih (k + 1) (k + 1) (cb_co (la_trial la u.1 (k + 1) t) - cb_co t) (la_trial la u.1 (k + 1) t) _ _ _ (by omega) (by unfold la_best; rw [hbe]; dsimp only; rw [if_pos (Int32.not_le.mp c2)]) (by omega) hP hD hS (lv_sub hl [4, 2, 1, 0] rfl)
  exact LP17 _ 0 0 (cb_co (la_trial la u.1 0 tr) - cb_co tr) (la_trial la u.1 0 tr) _ _ _ (Nat.zero_le _) rfl (Nat.lt_succ_self _) hP hD hS (lv_sub hl [3, 2, 1, 0] rfl)

abbrev rmX2_lineOf : Room := { frames := 0, cells := 0, slots := 0, locals := 0 }
set_option maxRecDepth 100000 in
set_option maxHeartbeats 4000000 in
theorem c_lineOf (l : Launch) (D : va_G) (cyI cyZ cyJ : ClassId) (a : Nat) (ha : a < 2 ^ 31) : CtI l yX2_lineOf wsX2_lineOf rmX2_lineOf D (T3 cyI cyZ cyJ) [.int (nI a)] (([] : va_W)) (nI (a / 4)) (([] : va_W)) := by
  refine CtI.of (cc := cX2_lineOf) (maxL := 1) (ret := (some .int)) (lv0 := [(0, .int (nI a))]) (by decide) rfl (Nat.le_of_ble_eq_true rfl) rfl ?_
  intro p e s m below meth c A ls args Q hx hb hml hr hlk hts hown hK hP hA hD hS hl hQ
  have hown : s.vm.findClass RX2 = some m.cls := hown
  refine lv_iload_n hx hb dX2_lineOf_0 rfl (lv_at hl 0 rfl) ?_
  refine lv_iconst (v := nI 4) hx hb dX2_lineOf_1 (by decide) ?_
  refine mq_idiv (x := a) (y := 4) ha (by decide) (by decide) hx hb dX2_lineOf_2 ?_
  exact CtI.ret hQ hx hb hr hlk hK hP hD hS dX2_lineOf_3 rfl rfl
abbrev rmX2_requireWord : Room := { frames := 0, cells := 0, slots := 0, locals := 0 }
set_option maxRecDepth 100000 in
set_option maxHeartbeats 4000000 in
theorem c_requireWord (l : Launch) (D : va_G) (cyI cyZ cyJ : ClassId) (a : Nat) (ha : a < 1024) : CtV l yX2_requireWord wsX2_requireWord rmX2_requireWord D (T3 cyI cyZ cyJ) [.int (nI a)] (([] : va_W)) (([] : va_W)) := by
  refine CtV.of (cc := cX2_requireWord) (maxL := 1) (ret := none) (lv0 := [(0, .int (nI a))]) (by decide) rfl (Nat.le_of_ble_eq_true rfl) rfl ?_
  intro p e s m below meth c A ls args Q hx hb hml hr hlk hts hown hK hP hA hD hS hl hQ
  have hown : s.vm.findClass RX2 = some m.cls := hown
  refine lv_iload_n hx hb dX2_requireWord_0 rfl (lv_at hl 0 rfl) ?_
  refine lv_if_lt (x := nI a) (tgt := 11) hx hb dX2_requireWord_1 (by decide) (fun c1 => ?_) (fun c1 => ?_)
  · exact absurd c1 (nI_pos (by omega))
  · refine lv_iload_n hx hb dX2_requireWord_4 rfl (lv_at hl 0 rfl) ?_
    refine lv_sipush (v := nI 1024) hx hb dX2_requireWord_5 (by decide) ?_
    refine mq_lt (x := a) (y := 1024) (tgt := 21) (by omega) (by omega) hx hb dX2_requireWord_8 (by decide) (fun c2 => ?_) (fun c2 => ?_)
    · exact CtV.ret hQ hx hb hr hlk hK hP hD hS dX2_requireWord_21 rfl
    · exact absurd ha (by omega)
abbrev rmX2_requireLine : Room := { frames := 0, cells := 0, slots := 0, locals := 0 }
set_option maxRecDepth 100000 in
set_option maxHeartbeats 4000000 in
theorem c_requireLine (l : Launch) (D : va_G) (cyI cyZ cyJ : ClassId) (a : Nat) (ha : a < 256) : CtV l yX2_requireLine wsX2_requireLine rmX2_requireLine D (T3 cyI cyZ cyJ) [.int (nI a)] (([] : va_W)) (([] : va_W)) := by
  refine CtV.of (cc := cX2_requireLine) (maxL := 1) (ret := none) (lv0 := [(0, .int (nI a))]) (by decide) rfl (Nat.le_of_ble_eq_true rfl) rfl ?_
  intro p e s m below meth c A ls args Q hx hb hml hr hlk hts hown hK hP hA hD hS hl hQ
  have hown : s.vm.findClass RX2 = some m.cls := hown
  refine lv_iload_n hx hb dX2_requireLine_0 rfl (lv_at hl 0 rfl) ?_
  refine lv_if_lt (x := nI a) (tgt := 11) hx hb dX2_requireLine_1 (by decide) (fun c1 => ?_) (fun c1 => ?_)
  · exact absurd c1 (nI_pos (by omega))
  · refine lv_iload_n hx hb dX2_requireLine_4 rfl (lv_at hl 0 rfl) ?_
    refine lv_sipush (v := nI 256) hx hb dX2_requireLine_5 (by decide) ?_
    refine mq_lt (x := a) (y := 256) (tgt := 21) (by omega) (by omega) hx hb dX2_requireLine_8 (by decide) (fun c2 => ?_) (fun c2 => ?_)
    · exact CtV.ret hQ hx hb hr hlk hK hP hD hS dX2_requireLine_21 rfl
    · exact absurd ha (by omega)
abbrev rmX2_requireSize : Room := { frames := 0, cells := 0, slots := 0, locals := 0 }
set_option maxRecDepth 100000 in
set_option maxHeartbeats 4000000 in
theorem c_requireSize (l : Launch) (D : va_G) (cyI cyZ cyJ : ClassId) (s' p' : Nat) (hs : s' = 1 ∨ s' = 2 ∨ s' = 4 ∨ s' = 8 ∨ s' = 16) (hp : p' ≤ 8) : CtV l yX2_requireSize wsX2_requireSize rmX2_requireSize D (T3 cyI cyZ cyJ) [.int (nI s'), .int (nI p')] (([] : va_W)) (([] : va_W)) := by
  refine CtV.of (cc := cX2_requireSize) (maxL := 3) (ret := none) (lv0 := [(0, .int (nI s')), (1, .int (nI p'))]) (by decide) rfl (Nat.le_of_ble_eq_true rfl) rfl ?_
  intro p e s m below meth c A ls args Q hx hb hml hr hlk hts hown hK hP hA hD hS hl hQ
  have hown : s.vm.findClass RX2 = some m.cls := hown
  rcases hs with rfl | rfl | rfl | rfl | rfl
  · refine lv_iload_n hx hb dX2_requireSize_0 rfl (lv_at hl 0 rfl) ?_
    refine lv_iconst (v := nI 1) hx hb dX2_requireSize_1 (by decide) ?_
    refine mq_eq (x := 1) (y := 1) (tgt := 27) (by omega) (by omega) hx hb dX2_requireSize_2 (by decide) (fun c1 => ?_) (fun c1 => ?_)
    · refine lv_iconst (v := nI 1) hx hb dX2_requireSize_27 (by decide) ?_
      refine lv_goto (tgt := 32) hx hb dX2_requireSize_28 (by decide) ?_
      refine lv_istore_n (lv' := [(2, .int (nI 1)), (0, .int (nI 1)), (1, .int (nI p'))]) hx hb dX2_requireSize_32 rfl hl (by decide) rfl (fun ls hl => ?_)
      refine lv_iload_n hx hb dX2_requireSize_33 rfl (lv_at hl 0 rfl) ?_
      refine mq_z (x := 1) (tgt := 47) (by omega) hx hb dX2_requireSize_34 (by decide) (fun c4 => ?_) (fun c4 => ?_)
      · exact absurd c4 (by decide)
      · refine lv_iload_n hx hb dX2_requireSize_37 rfl (lv_at hl 2 rfl) ?_
        refine lv_if_lt (x := nI p') (tgt := 47) hx hb dX2_requireSize_38 (by decide) (fun c3 => ?_) (fun c3 => ?_)
        · exact absurd c3 (nI_pos (by omega))
        · refine lv_iload_n hx hb dX2_requireSize_41 rfl (lv_at hl 2 rfl) ?_
          refine lv_bipush (v := nI 8) hx hb dX2_requireSize_42 (by decide) ?_
          refine lv_icmp_le (x := nI p') (y := 8) (tgt := 57) hx hb dX2_requireSize_44 (by decide) (fun c2 => ?_) (fun c2 => ?_)
          · exact CtV.ret hQ hx hb hr hlk hK hP hD hS dX2_requireSize_57 rfl
          · exact absurd (nI_le hp (by decide)) c2
    · exact absurd c1 (by decide)
  · refine lv_iload_n hx hb dX2_requireSize_0 rfl (lv_at hl 0 rfl) ?_
    refine lv_iconst (v := nI 1) hx hb dX2_requireSize_1 (by decide) ?_
    refine mq_eq (x := 2) (y := 1) (tgt := 27) (by omega) (by omega) hx hb dX2_requireSize_2 (by decide) (fun c2 => ?_) (fun c2 => ?_)
    · exact absurd c2 (by decide)
    · refine lv_iload_n hx hb dX2_requireSize_5 rfl (lv_at hl 0 rfl) ?_
      refine lv_iconst (v := nI 2) hx hb dX2_requireSize_6 (by decide) ?_
      refine mq_eq (x := 2) (y := 2) (tgt := 27) (by omega) (by omega) hx hb dX2_requireSize_7 (by decide) (fun c3 => ?_) (fun c3 => ?_)
      · refine lv_iconst (v := nI 1) hx hb dX2_requireSize_27 (by decide) ?_
        refine lv_goto (tgt := 32) hx hb dX2_requireSize_28 (by decide) ?_
        refine lv_istore_n (lv' := [(2, .int (nI 1)), (0, .int (nI 2)), (1, .int (nI p'))]) hx hb dX2_requireSize_32 rfl hl (by decide) rfl (fun ls hl => ?_)
        refine lv_iload_n hx hb dX2_requireSize_33 rfl (lv_at hl 0 rfl) ?_
        refine mq_z (x := 1) (tgt := 47) (by omega) hx hb dX2_requireSize_34 (by decide) (fun c4 => ?_) (fun c4 => ?_)
        · exact absurd c4 (by decide)
        · refine lv_iload_n hx hb dX2_requireSize_37 rfl (lv_at hl 2 rfl) ?_
          refine lv_if_lt (x := nI p') (tgt := 47) hx hb dX2_requireSize_38 (by decide) (fun c3 => ?_) (fun c3 => ?_)
          · exact absurd c3 (nI_pos (by omega))
          · refine lv_iload_n hx hb dX2_requireSize_41 rfl (lv_at hl 2 rfl) ?_
            refine lv_bipush (v := nI 8) hx hb dX2_requireSize_42 (by decide) ?_
            refine lv_icmp_le (x := nI p') (y := 8) (tgt := 57) hx hb dX2_requireSize_44 (by decide) (fun c2 => ?_) (fun c2 => ?_)
            · exact CtV.ret hQ hx hb hr hlk hK hP hD hS dX2_requireSize_57 rfl
            · exact absurd (nI_le hp (by decide)) c2
      · exact absurd c3 (by decide)
  · refine lv_iload_n hx hb dX2_requireSize_0 rfl (lv_at hl 0 rfl) ?_
    refine lv_iconst (v := nI 1) hx hb dX2_requireSize_1 (by decide) ?_
    refine mq_eq (x := 4) (y := 1) (tgt := 27) (by omega) (by omega) hx hb dX2_requireSize_2 (by decide) (fun c4 => ?_) (fun c4 => ?_)
    · exact absurd c4 (by decide)
    · refine lv_iload_n hx hb dX2_requireSize_5 rfl (lv_at hl 0 rfl) ?_
      refine lv_iconst (v := nI 2) hx hb dX2_requireSize_6 (by decide) ?_
      refine mq_eq (x := 4) (y := 2) (tgt := 27) (by omega) (by omega) hx hb dX2_requireSize_7 (by decide) (fun c5 => ?_) (fun c5 => ?_)
      · exact absurd c5 (by decide)
      · refine lv_iload_n hx hb dX2_requireSize_10 rfl (lv_at hl 0 rfl) ?_
        refine lv_iconst (v := nI 4) hx hb dX2_requireSize_11 (by decide) ?_
        refine mq_eq (x := 4) (y := 4) (tgt := 27) (by omega) (by omega) hx hb dX2_requireSize_12 (by decide) (fun c6 => ?_) (fun c6 => ?_)
        · refine lv_iconst (v := nI 1) hx hb dX2_requireSize_27 (by decide) ?_
          refine lv_goto (tgt := 32) hx hb dX2_requireSize_28 (by decide) ?_
          refine lv_istore_n (lv' := [(2, .int (nI 1)), (0, .int (nI 4)), (1, .int (nI p'))]) hx hb dX2_requireSize_32 rfl hl (by decide) rfl (fun ls hl => ?_)
          refine lv_iload_n hx hb dX2_requireSize_33 rfl (lv_at hl 0 rfl) ?_
          refine mq_z (x := 1) (tgt := 47) (by omega) hx hb dX2_requireSize_34 (by decide) (fun c4 => ?_) (fun c4 => ?_)
          · exact absurd c4 (by decide)
          · refine lv_iload_n hx hb dX2_requireSize_37 rfl (lv_at hl 2 rfl) ?_
            refine lv_if_lt (x := nI p') (tgt := 47) hx hb dX2_requireSize_38 (by decide) (fun c3 => ?_) (fun c3 => ?_)
            · exact absurd c3 (nI_pos (by omega))
            · refine lv_iload_n hx hb dX2_requireSize_41 rfl (lv_at hl 2 rfl) ?_
              refine lv_bipush (v := nI 8) hx hb dX2_requireSize_42 (by decide) ?_
              refine lv_icmp_le (x := nI p') (y := 8) (tgt := 57) hx hb dX2_requireSize_44 (by decide) (fun c2 => ?_) (fun c2 => ?_)
              · exact CtV.ret hQ hx hb hr hlk hK hP hD hS dX2_requireSize_57 rfl
              · exact absurd (nI_le hp (by decide)) c2
        · exact absurd c6 (by decide)
  · refine lv_iload_n hx hb dX2_requireSize_0 rfl (lv_at hl 0 rfl) ?_
    refine lv_iconst (v := nI 1) hx hb dX2_requireSize_1 (by decide) ?_
    refine mq_eq (x := 8) (y := 1) (tgt := 27) (by omega) (by omega) hx hb dX2_requireSize_2 (by decide) (fun c7 => ?_) (fun c7 => ?_)
    · exact absurd c7 (by decide)
    · refine lv_iload_n hx hb dX2_requireSize_5 rfl (lv_at hl 0 rfl) ?_
      refine lv_iconst (v := nI 2) hx hb dX2_requireSize_6 (by decide) ?_
      refine mq_eq (x := 8) (y := 2) (tgt := 27) (by omega) (by omega) hx hb dX2_requireSize_7 (by decide) (fun c8 => ?_) (fun c8 => ?_)
      · exact absurd c8 (by decide)
      · refine lv_iload_n hx hb dX2_requireSize_10 rfl (lv_at hl 0 rfl) ?_
        refine lv_iconst (v := nI 4) hx hb dX2_requireSize_11 (by decide) ?_
        refine mq_eq (x := 8) (y := 4) (tgt := 27) (by omega) (by omega) hx hb dX2_requireSize_12 (by decide) (fun c9 => ?_) (fun c9 => ?_)
        · exact absurd c9 (by decide)
        · refine lv_iload_n hx hb dX2_requireSize_15 rfl (lv_at hl 0 rfl) ?_
          refine lv_bipush (v := nI 8) hx hb dX2_requireSize_16 (by decide) ?_
          refine mq_eq (x := 8) (y := 8) (tgt := 27) (by omega) (by omega) hx hb dX2_requireSize_18 (by decide) (fun c10 => ?_) (fun c10 => ?_)
          · refine lv_iconst (v := nI 1) hx hb dX2_requireSize_27 (by decide) ?_
            refine lv_goto (tgt := 32) hx hb dX2_requireSize_28 (by decide) ?_
            refine lv_istore_n (lv' := [(2, .int (nI 1)), (0, .int (nI 8)), (1, .int (nI p'))]) hx hb dX2_requireSize_32 rfl hl (by decide) rfl (fun ls hl => ?_)
            refine lv_iload_n hx hb dX2_requireSize_33 rfl (lv_at hl 0 rfl) ?_
            refine mq_z (x := 1) (tgt := 47) (by omega) hx hb dX2_requireSize_34 (by decide) (fun c4 => ?_) (fun c4 => ?_)
            · exact absurd c4 (by decide)
            · refine lv_iload_n hx hb dX2_requireSize_37 rfl (lv_at hl 2 rfl) ?_
              refine lv_if_lt (x := nI p') (tgt := 47) hx hb dX2_requireSize_38 (by decide) (fun c3 => ?_) (fun c3 => ?_)
              · exact absurd c3 (nI_pos (by omega))
              · refine lv_iload_n hx hb dX2_requireSize_41 rfl (lv_at hl 2 rfl) ?_
                refine lv_bipush (v := nI 8) hx hb dX2_requireSize_42 (by decide) ?_
                refine lv_icmp_le (x := nI p') (y := 8) (tgt := 57) hx hb dX2_requireSize_44 (by decide) (fun c2 => ?_) (fun c2 => ?_)
                · exact CtV.ret hQ hx hb hr hlk hK hP hD hS dX2_requireSize_57 rfl
                · exact absurd (nI_le hp (by decide)) c2
          · exact absurd c10 (by decide)
  · refine lv_iload_n hx hb dX2_requireSize_0 rfl (lv_at hl 0 rfl) ?_
    refine lv_iconst (v := nI 1) hx hb dX2_requireSize_1 (by decide) ?_
    refine mq_eq (x := 16) (y := 1) (tgt := 27) (by omega) (by omega) hx hb dX2_requireSize_2 (by decide) (fun c11 => ?_) (fun c11 => ?_)
    · exact absurd c11 (by decide)
    · refine lv_iload_n hx hb dX2_requireSize_5 rfl (lv_at hl 0 rfl) ?_
      refine lv_iconst (v := nI 2) hx hb dX2_requireSize_6 (by decide) ?_
      refine mq_eq (x := 16) (y := 2) (tgt := 27) (by omega) (by omega) hx hb dX2_requireSize_7 (by decide) (fun c12 => ?_) (fun c12 => ?_)
      · exact absurd c12 (by decide)
      · refine lv_iload_n hx hb dX2_requireSize_10 rfl (lv_at hl 0 rfl) ?_
        refine lv_iconst (v := nI 4) hx hb dX2_requireSize_11 (by decide) ?_
        refine mq_eq (x := 16) (y := 4) (tgt := 27) (by omega) (by omega) hx hb dX2_requireSize_12 (by decide) (fun c13 => ?_) (fun c13 => ?_)
        · exact absurd c13 (by decide)
        · refine lv_iload_n hx hb dX2_requireSize_15 rfl (lv_at hl 0 rfl) ?_
          refine lv_bipush (v := nI 8) hx hb dX2_requireSize_16 (by decide) ?_
          refine mq_eq (x := 16) (y := 8) (tgt := 27) (by omega) (by omega) hx hb dX2_requireSize_18 (by decide) (fun c14 => ?_) (fun c14 => ?_)
          · exact absurd c14 (by decide)
          · refine lv_iload_n hx hb dX2_requireSize_21 rfl (lv_at hl 0 rfl) ?_
            refine lv_bipush (v := nI 16) hx hb dX2_requireSize_22 (by decide) ?_
            refine mq_ne (x := 16) (y := 16) (tgt := 31) (by omega) (by omega) hx hb dX2_requireSize_24 (by decide) (fun c15 => ?_) (fun c15 => ?_)
            · exact absurd c15 (by decide)
            · refine lv_iconst (v := nI 1) hx hb dX2_requireSize_27 (by decide) ?_
              refine lv_goto (tgt := 32) hx hb dX2_requireSize_28 (by decide) ?_
              refine lv_istore_n (lv' := [(2, .int (nI 1)), (0, .int (nI 16)), (1, .int (nI p'))]) hx hb dX2_requireSize_32 rfl hl (by decide) rfl (fun ls hl => ?_)
              refine lv_iload_n hx hb dX2_requireSize_33 rfl (lv_at hl 0 rfl) ?_
              refine mq_z (x := 1) (tgt := 47) (by omega) hx hb dX2_requireSize_34 (by decide) (fun c4 => ?_) (fun c4 => ?_)
              · exact absurd c4 (by decide)
              · refine lv_iload_n hx hb dX2_requireSize_37 rfl (lv_at hl 2 rfl) ?_
                refine lv_if_lt (x := nI p') (tgt := 47) hx hb dX2_requireSize_38 (by decide) (fun c3 => ?_) (fun c3 => ?_)
                · exact absurd c3 (nI_pos (by omega))
                · refine lv_iload_n hx hb dX2_requireSize_41 rfl (lv_at hl 2 rfl) ?_
                  refine lv_bipush (v := nI 8) hx hb dX2_requireSize_42 (by decide) ?_
                  refine lv_icmp_le (x := nI p') (y := 8) (tgt := 57) hx hb dX2_requireSize_44 (by decide) (fun c2 => ?_) (fun c2 => ?_)
                  · exact CtV.ret hQ hx hb hr hlk hK hP hD hS dX2_requireSize_57 rfl
                  · exact absurd (nI_le hp (by decide)) c2
abbrev rmX2_requireSet : Room := { frames := 0, cells := 0, slots := 0, locals := 0 }
set_option maxRecDepth 100000 in
set_option maxHeartbeats 4000000 in
theorem c_requireSet (l : Launch) (D : va_G) (cyI cyZ cyJ : ClassId) (h b1 b2 hu u1 u2 u3 ht t1 t2 t3 hw l1 l2 : Nat) (wr hm : Nat → Int32) (u tr : CBu) (la : LAu) (k : Nat) (hbd : cb_bd u) (hk : k < u.1) : CtV l yX2_requireSet wsX2_requireSet rmX2_requireSet D (T3 cyI cyZ cyJ) [.ref h, .int (nI k)] ((OBo cyI h b1 b2 hu ht hw wr hm) ++ ((CBc cyI cyZ hu u1 u2 u3 u) ++ ((CBc cyI cyZ ht t1 t2 t3 tr) ++ (LAc cyI cyZ hw l1 l2 la)))) ((OBo cyI h b1 b2 hu ht hw wr hm) ++ ((CBc cyI cyZ hu u1 u2 u3 u) ++ ((CBc cyI cyZ ht t1 t2 t3 tr) ++ (LAc cyI cyZ hw l1 l2 la)))) := by
  refine CtV.of (cc := cX2_requireSet) (maxL := 2) (ret := none) (lv0 := [(0, .ref h), (1, .int (nI k))]) (by decide) rfl (Nat.le_of_ble_eq_true rfl) rfl ?_
  intro p e s m below meth c A ls args Q hx hb hml hr hlk hts hown hK hP hA hD hS hl hQ
  have hown : s.vm.findClass RX2 = some m.cls := hown
  have hi_RX0 : ∀ w ∈ wsX00, w ∈ wsX2_requireSet := by decide +kernel
  have hi_RX2 : ∀ w ∈ wsX20, w ∈ wsX2_requireSet := by decide +kernel
  have hf_21 := hts (.fieldLink RX2 21 "OutcastBench" "actual" "LOutcastBench$CacheAndBench;") (by decide +kernel)
  have hf_98 := hts (.fieldLink RX2 98 "OutcastBench$CacheAndBench" "setCount" "I") (by decide +kernel)
  refine lv_iload_n hx hb dX2_requireSet_0 rfl (lv_at hl 1 rfl) ?_
  refine lv_if_lt (x := nI k) (tgt := 15) hx hb dX2_requireSet_1 (by decide) (fun c1 => ?_) (fun c1 => ?_)
  · exact absurd c1 (nI_pos (by have := cb_sc16 hbd; omega))
  · refine lv_iload_n hx hb dX2_requireSet_4 rfl (lv_at hl 1 rfl) ?_
    refine lv_aload_n hx hb dX2_requireSet_5 rfl (lv_at hl 0 rfl) ?_
    refine va_get (D := D) (ci := 2) (v := .ref hu) (C := RX2) (T := TX2) (N := 5) hx hb hts hi_RX2 hown hK hP 0 rfl rfl 2 (by decide) hf_21 (fun _ h9 => h9) rfl dX2_requireSet_6 ?_
    refine va_get (D := D) (ci := 0) (v := .int (nI u.1)) (C := RX0) (T := TX0) (N := 11) hx hb hts hi_RX0 hown hK hP 3 rfl rfl 0 (by decide) hf_98 (fun _ h9 => h9) rfl dX2_requireSet_9 ?_
    refine mq_lt (x := k) (y := u.1) (tgt := 25) (by have := cb_sc16 hbd; omega) (by have := cb_sc16 hbd; omega) hx hb dX2_requireSet_12 (by decide) (fun c2 => ?_) (fun c2 => ?_)
    · exact CtV.ret hQ hx hb hr hlk hK hP hD hS dX2_requireSet_25 rfl
    · exact absurd hk (by omega)
abbrev rmX2_ask : Room := { frames := 3, cells := 0, slots := 0, locals := 68 }
set_option maxRecDepth 100000 in
set_option maxHeartbeats 4000000 in
theorem c_ask (l : Launch) (D : va_G) (cyI cyZ cyJ : ClassId) (h b1 b2 hu u1 u2 u3 ht t1 t2 t3 hw l1 l2 : Nat) (wr hm : Nat → Int32) (u tr : CBu) (la : LAu) (q : Nat) (w : Bool) (hbd : cb_bd u) (hq : q < 256) (hla : la_bd la) : CtV l yX2_ask wsX2_ask rmX2_ask D (T3 cyI cyZ cyJ) [.ref h, .int (nI q), .int (bI w)] ((OBo cyI h b1 b2 hu ht hw wr hm) ++ ((CBc cyI cyZ hu u1 u2 u3 u) ++ ((CBc cyI cyZ ht t1 t2 t3 tr) ++ (LAc cyI cyZ hw l1 l2 la)))) ((OBo cyI h b1 b2 hu ht hw wr hm) ++ ((CBc cyI cyZ hu u1 u2 u3 (cb_acc q w u)) ++ ((CBc cyI cyZ ht t1 t2 t3 tr) ++ (LAc cyI cyZ hw l1 l2 (la_add q w la))))) := by
  refine CtV.of (cc := cX2_ask) (maxL := 3) (ret := none) (lv0 := [(0, .ref h), (1, .int (nI q)), (2, .int (bI w))]) (by decide) rfl (Nat.le_of_ble_eq_true rfl) rfl ?_
  intro p e s m below meth c A ls args Q hx hb hml hr hlk hts hown hK hP hA hD hS hl hQ
  have hown : s.vm.findClass RX2 = some m.cls := hown
  have hi_RX2 : ∀ w ∈ wsX20, w ∈ wsX2_ask := by decide +kernel
  have hf_21 := hts (.fieldLink RX2 21 "OutcastBench" "actual" "LOutcastBench$CacheAndBench;") (by decide +kernel)
  have hf_31 := hts (.fieldLink RX2 31 "OutcastBench" "last" "LOutcastBench$LastAccesses;") (by decide +kernel)
  refine lv_aload_n hx hb dX2_ask_0 rfl (lv_at hl 0 rfl) ?_
  refine va_get (D := D) (ci := 2) (v := .ref hu) (C := RX2) (T := TX2) (N := 5) hx hb hts hi_RX2 hown hK hP 0 rfl rfl 2 (by decide) hf_21 (fun _ h9 => h9) rfl dX2_ask_1 ?_
  refine lv_iload_n hx hb dX2_ask_4 rfl (lv_at hl 1 rfl) ?_
  refine lv_iload_n hx hb dX2_ask_5 rfl (lv_at hl 2 rfl) ?_
  refine CtV.callV (n := 2) (q0 := 0) (ci := 0) (wc := CBc cyI cyZ hu u1 u2 u3 u) (wr := (OBo cyI h b1 b2 hu ht hw wr hm) ++ ((CBc cyI cyZ ht t1 t2 t3 tr) ++ (LAc cyI cyZ hw l1 l2 la))) (w1 := CBc cyI cyZ hu u1 u2 u3 (cb_acc q w u)) (ws' := (OBo cyI h b1 b2 hu ht hw wr hm) ++ ((CBc cyI cyZ hu u1 u2 u3 (cb_acc q w u)) ++ ((CBc cyI cyZ ht t1 t2 t3 tr) ++ (LAc cyI cyZ hw l1 l2 la)))) (isC := [3, 4, 5, 6]) (isR := [0, 1, 2, 7, 8, 9, 10, 11, 12, 13]) (ps := [0, 1, 2, 10, 11, 12, 13, 3, 4, 5, 6, 7, 8, 9]) (As := [.int (nI q), .int (bI w)]) (rest := []) (c_accU l D cyI cyZ cyJ hu u1 u2 u3 u q w hbd hq) ⟨hx, hb, hown, hts⟩ gX2_ask_X0_access rfl ⟨rfl, by decide, by decide, by decide +kernel⟩ ⟨Nat.le_of_ble_eq_true rfl, Nat.le_of_ble_eq_true rfl⟩ ⟨rfl, rfl⟩ hml hl.1 hK hP hD hS hA ⟨rfl, rfl, rfl, rfl, rfl, rfl, rfl⟩ rfl ⟨rfl, rfl⟩ rfl rfl (Nat.le_of_ble_eq_true rfl) ⟨Nat.zero_le _, Nat.zero_le _⟩ dX2_ask_6 (fun H locs hP hD hS => ?_)
  refine lv_aload_n hx hb dX2_ask_9 rfl (lv_at hl 0 rfl) ?_
  refine va_get (D := D) (ci := 2) (v := .ref hw) (C := RX2) (T := TX2) (N := 5) hx hb hts hi_RX2 hown hK hP 0 rfl rfl 4 (by decide) hf_31 (fun _ h9 => h9) rfl dX2_ask_10 ?_
  refine lv_iload_n hx hb dX2_ask_13 rfl (lv_at hl 1 rfl) ?_
  refine lv_iload_n hx hb dX2_ask_14 rfl (lv_at hl 2 rfl) ?_
  refine CtV.callV (n := 2) (q0 := 0) (ci := 1) (wc := LAc cyI cyZ hw l1 l2 la) (wr := (OBo cyI h b1 b2 hu ht hw wr hm) ++ ((CBc cyI cyZ hu u1 u2 u3 (cb_acc q w u)) ++ (CBc cyI cyZ ht t1 t2 t3 tr))) (w1 := LAc cyI cyZ hw l1 l2 (la_add q w la)) (ws' := (OBo cyI h b1 b2 hu ht hw wr hm) ++ ((CBc cyI cyZ hu u1 u2 u3 (cb_acc q w u)) ++ ((CBc cyI cyZ ht t1 t2 t3 tr) ++ (LAc cyI cyZ hw l1 l2 (la_add q w la))))) (isC := [11, 12, 13]) (isR := [0, 1, 2, 3, 4, 5, 6, 7, 8, 9, 10]) (ps := [0, 1, 2, 3, 4, 5, 6, 7, 8, 9, 10, 11, 12, 13]) (As := [.int (nI q), .int (bI w)]) (rest := []) (c_addU l D cyI cyZ cyJ hw l1 l2 la q w hla) ⟨hx, hb, hown, hts⟩ gX2_ask_X1_add rfl ⟨rfl, by decide, by decide, by decide +kernel⟩ ⟨Nat.le_of_ble_eq_true rfl, Nat.le_of_ble_eq_true rfl⟩ ⟨rfl, rfl⟩ hml hl.1 hK hP hD hS hA ⟨rfl, rfl, rfl, rfl, rfl, rfl, rfl⟩ rfl ⟨rfl, rfl⟩ rfl rfl (Nat.le_of_ble_eq_true rfl) ⟨Nat.zero_le _, Nat.zero_le _⟩ dX2_ask_15 (fun H locs hP hD hS => ?_)
  exact CtV.ret hQ hx hb hr hlk hK hP hD hS dX2_ask_18 rfl
abbrev rmX2_keepHomeWords : Room := { frames := 1, cells := 0, slots := 0, locals := 60 }
set_option maxRecDepth 100000 in
set_option maxHeartbeats 4000000 in
theorem c_keep (l : Launch) (D : va_G) (cyI cyZ cyJ : ClassId) (h b1 b2 hu ht hw : Nat) (wr hm : Nat → Int32) (q : Nat) (hq : q < 256) : CtV l yX2_keepHomeWords wsX2_keepHomeWords rmX2_keepHomeWords D (T3 cyI cyZ cyJ) [.ref h, .int (nI q)] (OBo cyI h b1 b2 hu ht hw wr hm) (OBo cyI h b1 b2 hu ht hw wr (cpy hm wr (q * 4) (q * 4 + 4))) := by
  refine CtV.of (cc := cX2_keepHomeWords) (maxL := 3) (ret := none) (lv0 := [(0, .ref h), (1, .int (nI q))]) (by decide) rfl (Nat.le_of_ble_eq_true rfl) rfl ?_
  intro p e s m below meth c A ls args Q hx hb hml hr hlk hts hown hK hP hA hD hS hl hQ
  have hown : s.vm.findClass RX2 = some m.cls := hown
  have hi_RX2 : ∀ w ∈ wsX20, w ∈ wsX2_keepHomeWords := by decide +kernel
  have hf_9 := hts (.fieldLink RX2 9 "OutcastBench" "written" "[I") (by decide +kernel)
  have hf_13 := hts (.fieldLink RX2 13 "OutcastBench" "home" "[I") (by decide +kernel)
  refine lv_iload_n hx hb dX2_keepHomeWords_0 rfl (lv_at hl 1 rfl) ?_
  refine lv_iconst (v := nI 4) hx hb dX2_keepHomeWords_1 (by decide) ?_
  refine mq_imul (x := q) (y := 4) hx hb dX2_keepHomeWords_2 ?_
  refine lv_istore_n (lv' := [(2, .int (nI (q * 4))), (0, .ref h), (1, .int (nI q))]) hx hb dX2_keepHomeWords_3 rfl hl (by decide) rfl (fun ls hl => ?_)
  refine lv_aload_n hx hb dX2_keepHomeWords_4 rfl (lv_at hl 1 rfl) ?_
  refine va_get (D := D) (ci := 2) (v := .ref b1) (C := RX2) (T := TX2) (N := 5) hx hb hts hi_RX2 hown hK hP 0 rfl rfl 0 (by decide) hf_9 (fun _ h9 => h9) rfl dX2_keepHomeWords_5 ?_
  refine lv_iload_n hx hb dX2_keepHomeWords_8 rfl (lv_at hl 0 rfl) ?_
  refine lv_aload_n hx hb dX2_keepHomeWords_9 rfl (lv_at hl 1 rfl) ?_
  refine va_get (D := D) (ci := 2) (v := .ref b2) (C := RX2) (T := TX2) (N := 5) hx hb hts hi_RX2 hown hK hP 0 rfl rfl 1 (by decide) hf_13 (fun _ h9 => h9) rfl dX2_keepHomeWords_10 ?_
  refine lv_iload_n hx hb dX2_keepHomeWords_13 rfl (lv_at hl 0 rfl) ?_
  refine lv_iconst (v := nI 4) hx hb dX2_keepHomeWords_14 (by decide) ?_
  refine va_copyi (ty := .int) hx hb (hml.trans hl.1.symm) hown (hts (.methodLink RX2 145 arraycopyName) (by decide +kernel)) (hts (.native arraycopyName) (by decide +kernel)) (hts (.static arraycopyName) (by decide +kernel)) (hts (.initialized "java/lang/System") (by decide +kernel)) hK hP hD hS 1 2 0 0 rfl rfl rfl rfl rfl (nI_pos (by omega)) (nI_pos (by omega)) (nI_pos (by decide)) (by rw [nI_clamp (by omega), nI_clamp (by omega)]; omega) (by rw [nI_clamp (by omega), nI_clamp (by omega)]; omega) (fun _ _ => rfl) (Nat.le_of_ble_eq_true rfl) (Nat.le_of_ble_eq_true rfl) dX2_keepHomeWords_15 (fun H locs hP hD hS => ?_)
  obtain ⟨hP, hD⟩ := mq_row (q0 := 2) (g := cpy hm wr (q * 4) (q * 4 + 4)) (ws' := OBo cyI h b1 b2 hu ht hw wr (cpy hm wr (q * 4) (q * 4 + 4))) hP hD rfl (fun k hk => cpy_va rfl rfl rfl (by omega)) rfl
  exact CtV.ret hQ hx hb hr hlk hK hP hD hS dX2_keepHomeWords_18 rfl
abbrev rmX2_read : Room := { frames := 4, cells := 0, slots := 0, locals := 90 }
set_option maxRecDepth 100000 in
set_option maxHeartbeats 4000000 in
theorem c_read (l : Launch) (D : va_G) (cyI cyZ cyJ : ClassId) (h b1 b2 hu u1 u2 u3 ht t1 t2 t3 hw l1 l2 : Nat) (wr hm : Nat → Int32) (u tr : CBu) (la : LAu) (a : Nat) (hbd : cb_bd u) (hla : la_bd la) (ha : a < 1024) : CtI l yX2_read wsX2_read rmX2_read D (T3 cyI cyZ cyJ) [.ref h, .int (nI a)] ((OBo cyI h b1 b2 hu ht hw wr hm) ++ ((CBc cyI cyZ hu u1 u2 u3 u) ++ ((CBc cyI cyZ ht t1 t2 t3 tr) ++ (LAc cyI cyZ hw l1 l2 la)))) (wr a) ((OBo cyI h b1 b2 hu ht hw wr hm) ++ ((CBc cyI cyZ hu u1 u2 u3 (cb_acc (a / 4) false u)) ++ ((CBc cyI cyZ ht t1 t2 t3 tr) ++ (LAc cyI cyZ hw l1 l2 (la_add (a / 4) false la))))) := by
  refine CtI.of (cc := cX2_read) (maxL := 2) (ret := (some .int)) (lv0 := [(0, .ref h), (1, .int (nI a))]) (by decide) rfl (Nat.le_of_ble_eq_true rfl) rfl ?_
  intro p e s m below meth c A ls args Q hx hb hml hr hlk hts hown hK hP hA hD hS hl hQ
  have hown : s.vm.findClass RX2 = some m.cls := hown
  have hi_RX2 : ∀ w ∈ wsX20, w ∈ wsX2_read := by decide +kernel
  have hf_9 := hts (.fieldLink RX2 9 "OutcastBench" "written" "[I") (by decide +kernel)
  refine lv_iload_n hx hb dX2_read_0 rfl (lv_at hl 1 rfl) ?_
  refine CtV.callS (n := 1) (wc := ([] : va_W)) (wr := (OBo cyI h b1 b2 hu ht hw wr hm) ++ ((CBc cyI cyZ hu u1 u2 u3 u) ++ ((CBc cyI cyZ ht t1 t2 t3 tr) ++ (LAc cyI cyZ hw l1 l2 la)))) (w1 := ([] : va_W)) (ws' := (OBo cyI h b1 b2 hu ht hw wr hm) ++ ((CBc cyI cyZ hu u1 u2 u3 u) ++ ((CBc cyI cyZ ht t1 t2 t3 tr) ++ (LAc cyI cyZ hw l1 l2 la)))) (isC := []) (isR := [0, 1, 2, 3, 4, 5, 6, 7, 8, 9, 10, 11, 12, 13]) (ps := [0, 1, 2, 3, 4, 5, 6, 7, 8, 9, 10, 11, 12, 13]) (As := [.int (nI a)]) (rest := []) (c_requireWord l D cyI cyZ cyJ a ha) ⟨hx, hb, hown, hts⟩ gX2_read_X2_requireWord rfl ⟨by decide, by decide, by decide +kernel⟩ ⟨Nat.le_of_ble_eq_true rfl, Nat.le_of_ble_eq_true rfl⟩ ⟨rfl, rfl⟩ hml hl.1 hK hP hD hS hA ⟨rfl, rfl, rfl, rfl, rfl, rfl, rfl⟩ rfl rfl (Nat.le_of_ble_eq_true rfl) ⟨Nat.zero_le _, Nat.zero_le _⟩ dX2_read_1 (fun H locs hP hD hS => ?_)
  refine lv_aload_n hx hb dX2_read_4 rfl (lv_at hl 0 rfl) ?_
  refine lv_iload_n hx hb dX2_read_5 rfl (lv_at hl 1 rfl) ?_
  refine CtI.callS (n := 1) (wc := ([] : va_W)) (wr := (OBo cyI h b1 b2 hu ht hw wr hm) ++ ((CBc cyI cyZ hu u1 u2 u3 u) ++ ((CBc cyI cyZ ht t1 t2 t3 tr) ++ (LAc cyI cyZ hw l1 l2 la)))) (w1 := ([] : va_W)) (ws' := (OBo cyI h b1 b2 hu ht hw wr hm) ++ ((CBc cyI cyZ hu u1 u2 u3 u) ++ ((CBc cyI cyZ ht t1 t2 t3 tr) ++ (LAc cyI cyZ hw l1 l2 la)))) (isC := []) (isR := [0, 1, 2, 3, 4, 5, 6, 7, 8, 9, 10, 11, 12, 13]) (ps := [0, 1, 2, 3, 4, 5, 6, 7, 8, 9, 10, 11, 12, 13]) (As := [.int (nI a)]) (rest := [.ref h]) (c_lineOf l D cyI cyZ cyJ a (by omega)) ⟨hx, hb, hown, hts⟩ gX2_read_X2_lineOf rfl ⟨by decide, by decide, by decide +kernel⟩ ⟨Nat.le_of_ble_eq_true rfl, Nat.le_of_ble_eq_true rfl⟩ ⟨rfl, rfl⟩ hml hl.1 hK hP hD hS hA ⟨rfl, rfl, rfl, rfl, rfl, rfl, rfl⟩ rfl rfl (Nat.le_of_ble_eq_true rfl) ⟨Nat.zero_le _, Nat.zero_le _⟩ dX2_read_6 (fun H locs hP hD hS => ?_)
  refine lv_iconst (v := nI 0) hx hb dX2_read_9 (by decide) ?_
  refine CtV.callV (n := 2) (q0 := 0) (ci := 2) (wc := (OBo cyI h b1 b2 hu ht hw wr hm) ++ ((CBc cyI cyZ hu u1 u2 u3 u) ++ ((CBc cyI cyZ ht t1 t2 t3 tr) ++ (LAc cyI cyZ hw l1 l2 la)))) (wr := ([] : va_W)) (w1 := (OBo cyI h b1 b2 hu ht hw wr hm) ++ ((CBc cyI cyZ hu u1 u2 u3 (cb_acc (a / 4) false u)) ++ ((CBc cyI cyZ ht t1 t2 t3 tr) ++ (LAc cyI cyZ hw l1 l2 (la_add (a / 4) false la))))) (ws' := (OBo cyI h b1 b2 hu ht hw wr hm) ++ ((CBc cyI cyZ hu u1 u2 u3 (cb_acc (a / 4) false u)) ++ ((CBc cyI cyZ ht t1 t2 t3 tr) ++ (LAc cyI cyZ hw l1 l2 (la_add (a / 4) false la))))) (isC := [0, 1, 2, 3, 4, 5, 6, 7, 8, 9, 10, 11, 12, 13]) (isR := []) (ps := [0, 1, 2, 3, 4, 5, 6, 7, 8, 9, 10, 11, 12, 13]) (As := [.int (nI (a / 4)), .int (bI false)]) (rest := []) (c_ask l D cyI cyZ cyJ h b1 b2 hu u1 u2 u3 ht t1 t2 t3 hw l1 l2 wr hm u tr la (a / 4) false hbd (by omega) hla) ⟨hx, hb, hown, hts⟩ gX2_read_X2_ask rfl ⟨rfl, by decide, by decide, by decide +kernel⟩ ⟨Nat.le_of_ble_eq_true rfl, Nat.le_of_ble_eq_true rfl⟩ ⟨rfl, rfl⟩ hml hl.1 hK hP hD hS hA ⟨rfl, rfl, rfl, rfl, rfl, rfl, rfl⟩ rfl ⟨rfl, rfl⟩ rfl rfl (Nat.le_of_ble_eq_true rfl) ⟨Nat.zero_le _, Nat.zero_le _⟩ dX2_read_10 (fun H locs hP hD hS => ?_)
  refine lv_aload_n hx hb dX2_read_13 rfl (lv_at hl 0 rfl) ?_
  refine va_get (D := D) (ci := 2) (v := .ref b1) (C := RX2) (T := TX2) (N := 5) hx hb hts hi_RX2 hown hK hP 0 rfl rfl 0 (by decide) hf_9 (fun _ h9 => h9) rfl dX2_read_14 ?_
  refine lv_iload_n hx hb dX2_read_17 rfl (lv_at hl 1 rfl) ?_
  refine mq_ldR (k := a) wr hx hb hK hP 1 0 rfl rfl (by omega) (Nat.le_of_ble_eq_true rfl) dX2_read_18 ?_
  exact CtI.ret hQ hx hb hr hlk hK hP hD hS dX2_read_19 rfl rfl
abbrev rmX2_write : Room := { frames := 4, cells := 0, slots := 0, locals := 90 }
set_option maxRecDepth 100000 in
set_option maxHeartbeats 4000000 in
theorem c_write (l : Launch) (D : va_G) (cyI cyZ cyJ : ClassId) (h b1 b2 hu u1 u2 u3 ht t1 t2 t3 hw l1 l2 : Nat) (wr hm : Nat → Int32) (u tr : CBu) (la : LAu) (a : Nat) (v : Int32) (hbd : cb_bd u) (hla : la_bd la) (ha : a < 1024) : CtI l yX2_write wsX2_write rmX2_write D (T3 cyI cyZ cyJ) [.ref h, .int (nI a), .int v] ((OBo cyI h b1 b2 hu ht hw wr hm) ++ ((CBc cyI cyZ hu u1 u2 u3 u) ++ ((CBc cyI cyZ ht t1 t2 t3 tr) ++ (LAc cyI cyZ hw l1 l2 la)))) (wr a) ((OBo cyI h b1 b2 hu ht hw (ru wr a v) (if cb_dt u (a / 4) = true then hm else cpy hm wr (a / 4 * 4) (a / 4 * 4 + 4))) ++ ((CBc cyI cyZ hu u1 u2 u3 (cb_acc (a / 4) true u)) ++ ((CBc cyI cyZ ht t1 t2 t3 tr) ++ (LAc cyI cyZ hw l1 l2 (la_add (a / 4) true la))))) := by
  refine CtI.of (cc := cX2_write) (maxL := 5) (ret := (some .int)) (lv0 := [(0, .ref h), (1, .int (nI a)), (2, .int v)]) (by decide) rfl (Nat.le_of_ble_eq_true rfl) rfl ?_
  intro p e s m below meth c A ls args Q hx hb hml hr hlk hts hown hK hP hA hD hS hl hQ
  have hown : s.vm.findClass RX2 = some m.cls := hown
  have hi_RX0 : ∀ w ∈ wsX00, w ∈ wsX2_write := by decide +kernel
  have hi_RX2 : ∀ w ∈ wsX20, w ∈ wsX2_write := by decide +kernel
  have hf_9 := hts (.fieldLink RX2 9 "OutcastBench" "written" "[I") (by decide +kernel)
  have hf_21 := hts (.fieldLink RX2 21 "OutcastBench" "actual" "LOutcastBench$CacheAndBench;") (by decide +kernel)
  have hf_47 := hts (.fieldLink RX2 47 "OutcastBench$CacheAndBench" "dirtyLines" "[Z") (by decide +kernel)
  refine lv_iload_n hx hb dX2_write_0 rfl (lv_at hl 1 rfl) ?_
  refine CtV.callS (n := 1) (wc := ([] : va_W)) (wr := (OBo cyI h b1 b2 hu ht hw wr hm) ++ ((CBc cyI cyZ hu u1 u2 u3 u) ++ ((CBc cyI cyZ ht t1 t2 t3 tr) ++ (LAc cyI cyZ hw l1 l2 la)))) (w1 := ([] : va_W)) (ws' := (OBo cyI h b1 b2 hu ht hw wr hm) ++ ((CBc cyI cyZ hu u1 u2 u3 u) ++ ((CBc cyI cyZ ht t1 t2 t3 tr) ++ (LAc cyI cyZ hw l1 l2 la)))) (isC := []) (isR := [0, 1, 2, 3, 4, 5, 6, 7, 8, 9, 10, 11, 12, 13]) (ps := [0, 1, 2, 3, 4, 5, 6, 7, 8, 9, 10, 11, 12, 13]) (As := [.int (nI a)]) (rest := []) (c_requireWord l D cyI cyZ cyJ a ha) ⟨hx, hb, hown, hts⟩ gX2_write_X2_requireWord rfl ⟨by decide, by decide, by decide +kernel⟩ ⟨Nat.le_of_ble_eq_true rfl, Nat.le_of_ble_eq_true rfl⟩ ⟨rfl, rfl⟩ hml hl.1 hK hP hD hS hA ⟨rfl, rfl, rfl, rfl, rfl, rfl, rfl⟩ rfl rfl (Nat.le_of_ble_eq_true rfl) ⟨Nat.zero_le _, Nat.zero_le _⟩ dX2_write_1 (fun H locs hP hD hS => ?_)
  refine lv_iload_n hx hb dX2_write_4 rfl (lv_at hl 1 rfl) ?_
  refine CtI.callS (n := 1) (wc := ([] : va_W)) (wr := (OBo cyI h b1 b2 hu ht hw wr hm) ++ ((CBc cyI cyZ hu u1 u2 u3 u) ++ ((CBc cyI cyZ ht t1 t2 t3 tr) ++ (LAc cyI cyZ hw l1 l2 la)))) (w1 := ([] : va_W)) (ws' := (OBo cyI h b1 b2 hu ht hw wr hm) ++ ((CBc cyI cyZ hu u1 u2 u3 u) ++ ((CBc cyI cyZ ht t1 t2 t3 tr) ++ (LAc cyI cyZ hw l1 l2 la)))) (isC := []) (isR := [0, 1, 2, 3, 4, 5, 6, 7, 8, 9, 10, 11, 12, 13]) (ps := [0, 1, 2, 3, 4, 5, 6, 7, 8, 9, 10, 11, 12, 13]) (As := [.int (nI a)]) (rest := []) (c_lineOf l D cyI cyZ cyJ a (by omega)) ⟨hx, hb, hown, hts⟩ gX2_write_X2_lineOf rfl ⟨by decide, by decide, by decide +kernel⟩ ⟨Nat.le_of_ble_eq_true rfl, Nat.le_of_ble_eq_true rfl⟩ ⟨rfl, rfl⟩ hml hl.1 hK hP hD hS hA ⟨rfl, rfl, rfl, rfl, rfl, rfl, rfl⟩ rfl rfl (Nat.le_of_ble_eq_true rfl) ⟨Nat.zero_le _, Nat.zero_le _⟩ dX2_write_5 (fun H locs hP hD hS => ?_)
  refine lv_istore_n (lv' := [(3, .int (nI (a / 4))), (0, .ref h), (1, .int (nI a)), (2, .int v)]) hx hb dX2_write_8 rfl hl (by decide) rfl (fun ls hl => ?_)
  refine lv_aload_n hx hb dX2_write_9 rfl (lv_at hl 1 rfl) ?_
  refine va_get (D := D) (ci := 2) (v := .ref hu) (C := RX2) (T := TX2) (N := 5) hx hb hts hi_RX2 hown hK hP 0 rfl rfl 2 (by decide) hf_21 (fun _ h9 => h9) rfl dX2_write_10 ?_
  refine va_get (D := D) (ci := 0) (v := .ref u3) (C := RX0) (T := TX0) (N := 11) hx hb hts hi_RX0 hown hK hP 3 rfl rfl 5 (by decide) hf_47 (fun _ h9 => h9) rfl dX2_write_13 ?_
  refine lv_iload_n hx hb dX2_write_16 rfl (lv_at hl 0 rfl) ?_
  refine mq_zld (k := (a / 4)) u.2.2.2.2.2.1 hx hb hK hP 6 1 rfl rfl (by omega) (Nat.le_of_ble_eq_true rfl) dX2_write_17 ?_
  refine mq_bnz (b := (u.2.2.2.2.2.1 (a / 4))) (tgt := 26) hx hb dX2_write_18 (by decide) (fun c1 => ?_) (fun c1 => ?_)
  · refine lv_aload_n hx hb dX2_write_26 rfl (lv_at hl 1 rfl) ?_
    refine lv_iload_n hx hb dX2_write_27 rfl (lv_at hl 0 rfl) ?_
    refine lv_iconst (v := nI 1) hx hb dX2_write_28 (by decide) ?_
    refine CtV.callV (n := 2) (q0 := 0) (ci := 2) (wc := (OBo cyI h b1 b2 hu ht hw wr hm) ++ ((CBc cyI cyZ hu u1 u2 u3 u) ++ ((CBc cyI cyZ ht t1 t2 t3 tr) ++ (LAc cyI cyZ hw l1 l2 la)))) (wr := ([] : va_W)) (w1 := (OBo cyI h b1 b2 hu ht hw wr hm) ++ ((CBc cyI cyZ hu u1 u2 u3 (cb_acc (a / 4) true u)) ++ ((CBc cyI cyZ ht t1 t2 t3 tr) ++ (LAc cyI cyZ hw l1 l2 (la_add (a / 4) true la))))) (ws' := (OBo cyI h b1 b2 hu ht hw wr hm) ++ ((CBc cyI cyZ hu u1 u2 u3 (cb_acc (a / 4) true u)) ++ ((CBc cyI cyZ ht t1 t2 t3 tr) ++ (LAc cyI cyZ hw l1 l2 (la_add (a / 4) true la))))) (isC := [0, 1, 2, 3, 4, 5, 6, 7, 8, 9, 10, 11, 12, 13]) (isR := []) (ps := [0, 1, 2, 3, 4, 5, 6, 7, 8, 9, 10, 11, 12, 13]) (As := [.int (nI (a / 4)), .int (bI true)]) (rest := []) (c_ask l D cyI cyZ cyJ h b1 b2 hu u1 u2 u3 ht t1 t2 t3 hw l1 l2 wr hm u tr la (a / 4) true hbd (by omega) hla) ⟨hx, hb, hown, hts⟩ gX2_write_X2_ask rfl ⟨rfl, by decide, by decide, by decide +kernel⟩ ⟨Nat.le_of_ble_eq_true rfl, Nat.le_of_ble_eq_true rfl⟩ ⟨rfl, rfl⟩ hml hl.1 hK hP hD hS hA ⟨rfl, rfl, rfl, rfl, rfl, rfl, rfl⟩ rfl ⟨rfl, rfl⟩ rfl rfl (Nat.le_of_ble_eq_true rfl) ⟨Nat.zero_le _, Nat.zero_le _⟩ dX2_write_29 (fun H locs hP hD hS => ?_)
    refine lv_aload_n hx hb dX2_write_32 rfl (lv_at hl 1 rfl) ?_
    refine va_get (D := D) (ci := 2) (v := .ref b1) (C := RX2) (T := TX2) (N := 5) hx hb hts hi_RX2 hown hK hP 0 rfl rfl 0 (by decide) hf_9 (fun _ h9 => h9) rfl dX2_write_33 ?_
    refine lv_iload_n hx hb dX2_write_36 rfl (lv_at hl 2 rfl) ?_
    refine mq_ldR (k := a) wr hx hb hK hP 1 0 rfl rfl (by omega) (Nat.le_of_ble_eq_true rfl) dX2_write_37 ?_
    refine lv_istore (lv' := [(4, .int (wr a)), (3, .int (nI (a / 4))), (0, .ref h), (1, .int (nI a)), (2, .int v)]) hx hb dX2_write_38 hl (by decide) rfl (fun ls hl => ?_)
    refine lv_aload_n hx hb dX2_write_40 rfl (lv_at hl 2 rfl) ?_
    refine va_get (D := D) (ci := 2) (v := .ref b1) (C := RX2) (T := TX2) (N := 5) hx hb hts hi_RX2 hown hK hP 0 rfl rfl 0 (by decide) hf_9 (fun _ h9 => h9) rfl dX2_write_41 ?_
    refine lv_iload_n hx hb dX2_write_44 rfl (lv_at hl 3 rfl) ?_
    refine lv_iload_n hx hb dX2_write_45 rfl (lv_at hl 4 rfl) ?_
    refine mq_stR (k := a) wr v (ws' := (OBo cyI h b1 b2 hu ht hw (ru wr a v) hm) ++ ((CBc cyI cyZ hu u1 u2 u3 (cb_acc (a / 4) true u)) ++ ((CBc cyI cyZ ht t1 t2 t3 tr) ++ (LAc cyI cyZ hw l1 l2 (la_add (a / 4) true la))))) hx hb hK hP hD hS 1 0 rfl rfl (by omega) (Nat.le_of_ble_eq_true rfl) dX2_write_46 rfl (fun H locs hP hD hS => ?_)
    refine lv_iload hx hb dX2_write_47 (lv_at hl 0 rfl) ?_
    exact CtI.ret hQ hx hb hr hlk hK hP hD hS dX2_write_49 rfl (by rw [if_pos (show cb_dt u (a / 4) = true from c1)])
  · refine lv_aload_n hx hb dX2_write_21 rfl (lv_at hl 1 rfl) ?_
    refine lv_iload_n hx hb dX2_write_22 rfl (lv_at hl 0 rfl) ?_
    refine CtV.callV (n := 1) (q0 := 0) (ci := 2) (wc := OBo cyI h b1 b2 hu ht hw wr hm) (wr := (CBc cyI cyZ hu u1 u2 u3 u) ++ ((CBc cyI cyZ ht t1 t2 t3 tr) ++ (LAc cyI cyZ hw l1 l2 la))) (w1 := OBo cyI h b1 b2 hu ht hw wr (cpy hm wr (a / 4 * 4) (a / 4 * 4 + 4))) (ws' := (OBo cyI h b1 b2 hu ht hw wr (cpy hm wr (a / 4 * 4) (a / 4 * 4 + 4))) ++ ((CBc cyI cyZ hu u1 u2 u3 u) ++ ((CBc cyI cyZ ht t1 t2 t3 tr) ++ (LAc cyI cyZ hw l1 l2 la)))) (isC := [0, 1, 2]) (isR := [3, 4, 5, 6, 7, 8, 9, 10, 11, 12, 13]) (ps := [11, 12, 13, 0, 1, 2, 3, 4, 5, 6, 7, 8, 9, 10]) (As := [.int (nI (a / 4))]) (rest := []) (c_keep l D cyI cyZ cyJ h b1 b2 hu ht hw wr hm (a / 4) (by omega)) ⟨hx, hb, hown, hts⟩ gX2_write_X2_keepHomeWords rfl ⟨rfl, by decide, by decide, by decide +kernel⟩ ⟨Nat.le_of_ble_eq_true rfl, Nat.le_of_ble_eq_true rfl⟩ ⟨rfl, rfl⟩ hml hl.1 hK hP hD hS hA ⟨rfl, rfl, rfl, rfl, rfl, rfl, rfl⟩ rfl ⟨rfl, rfl⟩ rfl rfl (Nat.le_of_ble_eq_true rfl) ⟨Nat.zero_le _, Nat.zero_le _⟩ dX2_write_23 (fun H locs hP hD hS => ?_)
    refine lv_aload_n hx hb dX2_write_26 rfl (lv_at hl 1 rfl) ?_
    refine lv_iload_n hx hb dX2_write_27 rfl (lv_at hl 0 rfl) ?_
    refine lv_iconst (v := nI 1) hx hb dX2_write_28 (by decide) ?_
    refine CtV.callV (n := 2) (q0 := 0) (ci := 2) (wc := (OBo cyI h b1 b2 hu ht hw wr (cpy hm wr (a / 4 * 4) (a / 4 * 4 + 4))) ++ ((CBc cyI cyZ hu u1 u2 u3 u) ++ ((CBc cyI cyZ ht t1 t2 t3 tr) ++ (LAc cyI cyZ hw l1 l2 la)))) (wr := ([] : va_W)) (w1 := (OBo cyI h b1 b2 hu ht hw wr (cpy hm wr (a / 4 * 4) (a / 4 * 4 + 4))) ++ ((CBc cyI cyZ hu u1 u2 u3 (cb_acc (a / 4) true u)) ++ ((CBc cyI cyZ ht t1 t2 t3 tr) ++ (LAc cyI cyZ hw l1 l2 (la_add (a / 4) true la))))) (ws' := (OBo cyI h b1 b2 hu ht hw wr (cpy hm wr (a / 4 * 4) (a / 4 * 4 + 4))) ++ ((CBc cyI cyZ hu u1 u2 u3 (cb_acc (a / 4) true u)) ++ ((CBc cyI cyZ ht t1 t2 t3 tr) ++ (LAc cyI cyZ hw l1 l2 (la_add (a / 4) true la))))) (isC := [0, 1, 2, 3, 4, 5, 6, 7, 8, 9, 10, 11, 12, 13]) (isR := []) (ps := [0, 1, 2, 3, 4, 5, 6, 7, 8, 9, 10, 11, 12, 13]) (As := [.int (nI (a / 4)), .int (bI true)]) (rest := []) (c_ask l D cyI cyZ cyJ h b1 b2 hu u1 u2 u3 ht t1 t2 t3 hw l1 l2 wr (cpy hm wr (a / 4 * 4) (a / 4 * 4 + 4)) u tr la (a / 4) true hbd (by omega) hla) ⟨hx, hb, hown, hts⟩ gX2_write_X2_ask rfl ⟨rfl, by decide, by decide, by decide +kernel⟩ ⟨Nat.le_of_ble_eq_true rfl, Nat.le_of_ble_eq_true rfl⟩ ⟨rfl, rfl⟩ hml hl.1 hK hP hD hS hA ⟨rfl, rfl, rfl, rfl, rfl, rfl, rfl⟩ rfl ⟨rfl, rfl⟩ rfl rfl (Nat.le_of_ble_eq_true rfl) ⟨Nat.zero_le _, Nat.zero_le _⟩ dX2_write_29 (fun H locs hP hD hS => ?_)
    refine lv_aload_n hx hb dX2_write_32 rfl (lv_at hl 1 rfl) ?_
    refine va_get (D := D) (ci := 2) (v := .ref b1) (C := RX2) (T := TX2) (N := 5) hx hb hts hi_RX2 hown hK hP 0 rfl rfl 0 (by decide) hf_9 (fun _ h9 => h9) rfl dX2_write_33 ?_
    refine lv_iload_n hx hb dX2_write_36 rfl (lv_at hl 2 rfl) ?_
    refine mq_ldR (k := a) wr hx hb hK hP 1 0 rfl rfl (by omega) (Nat.le_of_ble_eq_true rfl) dX2_write_37 ?_
    refine lv_istore (lv' := [(4, .int (wr a)), (3, .int (nI (a / 4))), (0, .ref h), (1, .int (nI a)), (2, .int v)]) hx hb dX2_write_38 hl (by decide) rfl (fun ls hl => ?_)
    refine lv_aload_n hx hb dX2_write_40 rfl (lv_at hl 2 rfl) ?_
    refine va_get (D := D) (ci := 2) (v := .ref b1) (C := RX2) (T := TX2) (N := 5) hx hb hts hi_RX2 hown hK hP 0 rfl rfl 0 (by decide) hf_9 (fun _ h9 => h9) rfl dX2_write_41 ?_
    refine lv_iload_n hx hb dX2_write_44 rfl (lv_at hl 3 rfl) ?_
    refine lv_iload_n hx hb dX2_write_45 rfl (lv_at hl 4 rfl) ?_
    refine mq_stR (k := a) wr v (ws' := (OBo cyI h b1 b2 hu ht hw (ru wr a v) (cpy hm wr (a / 4 * 4) (a / 4 * 4 + 4))) ++ ((CBc cyI cyZ hu u1 u2 u3 (cb_acc (a / 4) true u)) ++ ((CBc cyI cyZ ht t1 t2 t3 tr) ++ (LAc cyI cyZ hw l1 l2 (la_add (a / 4) true la))))) hx hb hK hP hD hS 1 0 rfl rfl (by omega) (Nat.le_of_ble_eq_true rfl) dX2_write_46 rfl (fun H locs hP hD hS => ?_)
    refine lv_iload hx hb dX2_write_47 (lv_at hl 0 rfl) ?_
    exact CtI.ret hQ hx hb hr hlk hK hP hD hS dX2_write_49 rfl (by rw [if_neg (by rw [show cb_dt u (a / 4) = u.2.2.2.2.2.1 (a / 4) from rfl, c1]; exact Bool.false_ne_true)])
abbrev rmX2_bringHome : Room := { frames := 2, cells := 0, slots := 0, locals := 43 }
set_option maxRecDepth 100000 in
set_option maxHeartbeats 4000000 in
theorem c_bringHome (l : Launch) (D : va_G) (cyI cyZ cyJ : ClassId) (h b1 b2 hu u1 u2 u3 ht t1 t2 t3 hw l1 l2 : Nat) (wr hm : Nat → Int32) (u tr : CBu) (la : LAu) (hbd : cb_bd u) : CtI l yX2_bringHome wsX2_bringHome rmX2_bringHome D (T3 cyI cyZ cyJ) [.ref h] ((OBo cyI h b1 b2 hu ht hw wr hm) ++ ((CBc cyI cyZ hu u1 u2 u3 u) ++ ((CBc cyI cyZ ht t1 t2 t3 tr) ++ (LAc cyI cyZ hw l1 l2 la)))) (cb_hc (cb_bring u) - cb_hc u) ((OBo cyI h b1 b2 hu ht hw wr hm) ++ ((CBc cyI cyZ hu u1 u2 u3 (cb_bring u)) ++ ((CBc cyI cyZ ht t1 t2 t3 tr) ++ (LAc cyI cyZ hw l1 l2 la)))) := by
  refine CtI.of (cc := cX2_bringHome) (maxL := 1) (ret := (some .int)) (lv0 := [(0, .ref h)]) (by decide) rfl (Nat.le_of_ble_eq_true rfl) rfl ?_
  intro p e s m below meth c A ls args Q hx hb hml hr hlk hts hown hK hP hA hD hS hl hQ
  have hown : s.vm.findClass RX2 = some m.cls := hown
  have hi_RX2 : ∀ w ∈ wsX20, w ∈ wsX2_bringHome := by decide +kernel
  have hf_21 := hts (.fieldLink RX2 21 "OutcastBench" "actual" "LOutcastBench$CacheAndBench;") (by decide +kernel)
  refine lv_aload_n hx hb dX2_bringHome_0 rfl (lv_at hl 0 rfl) ?_
  refine va_get (D := D) (ci := 2) (v := .ref hu) (C := RX2) (T := TX2) (N := 5) hx hb hts hi_RX2 hown hK hP 0 rfl rfl 2 (by decide) hf_21 (fun _ h9 => h9) rfl dX2_bringHome_1 ?_
  refine CtI.callV (n := 0) (q0 := 0) (ci := 0) (wc := CBc cyI cyZ hu u1 u2 u3 u) (wr := (OBo cyI h b1 b2 hu ht hw wr hm) ++ ((CBc cyI cyZ ht t1 t2 t3 tr) ++ (LAc cyI cyZ hw l1 l2 la))) (w1 := CBc cyI cyZ hu u1 u2 u3 (cb_bring u)) (ws' := (OBo cyI h b1 b2 hu ht hw wr hm) ++ ((CBc cyI cyZ hu u1 u2 u3 (cb_bring u)) ++ ((CBc cyI cyZ ht t1 t2 t3 tr) ++ (LAc cyI cyZ hw l1 l2 la)))) (isC := [3, 4, 5, 6]) (isR := [0, 1, 2, 7, 8, 9, 10, 11, 12, 13]) (ps := [0, 1, 2, 10, 11, 12, 13, 3, 4, 5, 6, 7, 8, 9]) (As := []) (rest := []) (c_bringU l D cyI cyZ cyJ hu u1 u2 u3 u hbd) ⟨hx, hb, hown, hts⟩ gX2_bringHome_X0_bringAllHome rfl ⟨rfl, by decide, by decide, by decide +kernel⟩ ⟨Nat.le_of_ble_eq_true rfl, Nat.le_of_ble_eq_true rfl⟩ ⟨rfl, rfl⟩ hml hl.1 hK hP hD hS hA ⟨rfl, rfl, rfl, rfl, rfl, rfl, rfl⟩ rfl ⟨rfl, rfl⟩ rfl rfl (Nat.le_of_ble_eq_true rfl) ⟨Nat.zero_le _, Nat.zero_le _⟩ dX2_bringHome_4 (fun H locs hP hD hS => ?_)
  exact CtI.ret hQ hx hb hr hlk hK hP hD hS dX2_bringHome_7 rfl rfl
abbrev rmX2_build : Room := { frames := 2, cells := 0, slots := 0, locals := 46 }
set_option maxRecDepth 100000 in
set_option maxHeartbeats 4000000 in
theorem c_build (l : Launch) (D : va_G) (cyI cyZ cyJ : ClassId) (h b1 b2 hu u1 u2 u3 ht t1 t2 t3 hw l1 l2 : Nat) (wr hm : Nat → Int32) (u tr : CBu) (la : LAu) (s' p' : Nat) (hbd : cb_bd u) (hs : s' = 1 ∨ s' = 2 ∨ s' = 4 ∨ s' = 8 ∨ s' = 16) (hp : p' ≤ 8) : CtI l yX2_build wsX2_build rmX2_build D (T3 cyI cyZ cyJ) [.ref h, .int (nI s'), .int (nI p')] ((OBo cyI h b1 b2 hu ht hw wr hm) ++ ((CBc cyI cyZ hu u1 u2 u3 u) ++ ((CBc cyI cyZ ht t1 t2 t3 tr) ++ (LAc cyI cyZ hw l1 l2 la)))) (nI (cb_lines u)) ((OBo cyI h b1 b2 hu ht hw wr hm) ++ ((CBc cyI cyZ hu u1 u2 u3 (cb_empty s' p' (cb_bring u))) ++ ((CBc cyI cyZ ht t1 t2 t3 tr) ++ (LAc cyI cyZ hw l1 l2 la)))) := by
  refine CtI.of (cc := cX2_build) (maxL := 4) (ret := (some .int)) (lv0 := [(0, .ref h), (1, .int (nI s')), (2, .int (nI p'))]) (by decide) rfl (Nat.le_of_ble_eq_true rfl) rfl ?_
  intro p e s m below meth c A ls args Q hx hb hml hr hlk hts hown hK hP hA hD hS hl hQ
  have hown : s.vm.findClass RX2 = some m.cls := hown
  have hi_RX2 : ∀ w ∈ wsX20, w ∈ wsX2_build := by decide +kernel
  have hf_21 := hts (.fieldLink RX2 21 "OutcastBench" "actual" "LOutcastBench$CacheAndBench;") (by decide +kernel)
  refine lv_iload_n hx hb dX2_build_0 rfl (lv_at hl 1 rfl) ?_
  refine lv_iload_n hx hb dX2_build_1 rfl (lv_at hl 2 rfl) ?_
  refine CtV.callS (n := 2) (wc := ([] : va_W)) (wr := (OBo cyI h b1 b2 hu ht hw wr hm) ++ ((CBc cyI cyZ hu u1 u2 u3 u) ++ ((CBc cyI cyZ ht t1 t2 t3 tr) ++ (LAc cyI cyZ hw l1 l2 la)))) (w1 := ([] : va_W)) (ws' := (OBo cyI h b1 b2 hu ht hw wr hm) ++ ((CBc cyI cyZ hu u1 u2 u3 u) ++ ((CBc cyI cyZ ht t1 t2 t3 tr) ++ (LAc cyI cyZ hw l1 l2 la)))) (isC := []) (isR := [0, 1, 2, 3, 4, 5, 6, 7, 8, 9, 10, 11, 12, 13]) (ps := [0, 1, 2, 3, 4, 5, 6, 7, 8, 9, 10, 11, 12, 13]) (As := [.int (nI s'), .int (nI p')]) (rest := []) (c_requireSize l D cyI cyZ cyJ s' p' hs hp) ⟨hx, hb, hown, hts⟩ gX2_build_X2_requireSize rfl ⟨by decide, by decide, by decide +kernel⟩ ⟨Nat.le_of_ble_eq_true rfl, Nat.le_of_ble_eq_true rfl⟩ ⟨rfl, rfl⟩ hml hl.1 hK hP hD hS hA ⟨rfl, rfl, rfl, rfl, rfl, rfl, rfl⟩ rfl rfl (Nat.le_of_ble_eq_true rfl) ⟨Nat.zero_le _, Nat.zero_le _⟩ dX2_build_2 (fun H locs hP hD hS => ?_)
  refine lv_aload_n hx hb dX2_build_5 rfl (lv_at hl 0 rfl) ?_
  refine va_get (D := D) (ci := 2) (v := .ref hu) (C := RX2) (T := TX2) (N := 5) hx hb hts hi_RX2 hown hK hP 0 rfl rfl 2 (by decide) hf_21 (fun _ h9 => h9) rfl dX2_build_6 ?_
  refine CtI.callV (n := 0) (q0 := 0) (ci := 0) (wc := CBc cyI cyZ hu u1 u2 u3 u) (wr := (OBo cyI h b1 b2 hu ht hw wr hm) ++ ((CBc cyI cyZ ht t1 t2 t3 tr) ++ (LAc cyI cyZ hw l1 l2 la))) (w1 := CBc cyI cyZ hu u1 u2 u3 u) (ws' := (OBo cyI h b1 b2 hu ht hw wr hm) ++ ((CBc cyI cyZ hu u1 u2 u3 u) ++ ((CBc cyI cyZ ht t1 t2 t3 tr) ++ (LAc cyI cyZ hw l1 l2 la)))) (isC := [3, 4, 5, 6]) (isR := [0, 1, 2, 7, 8, 9, 10, 11, 12, 13]) (ps := [0, 1, 2, 10, 11, 12, 13, 3, 4, 5, 6, 7, 8, 9]) (As := []) (rest := []) (c_countLinesU l D cyI cyZ cyJ hu u1 u2 u3 u hbd) ⟨hx, hb, hown, hts⟩ gX2_build_X0_countLines rfl ⟨rfl, by decide, by decide, by decide +kernel⟩ ⟨Nat.le_of_ble_eq_true rfl, Nat.le_of_ble_eq_true rfl⟩ ⟨rfl, rfl⟩ hml hl.1 hK hP hD hS hA ⟨rfl, rfl, rfl, rfl, rfl, rfl, rfl⟩ rfl ⟨rfl, rfl⟩ rfl rfl (Nat.le_of_ble_eq_true rfl) ⟨Nat.zero_le _, Nat.zero_le _⟩ dX2_build_9 (fun H locs hP hD hS => ?_)
  refine lv_istore_n (lv' := [(3, .int (nI (cb_lines u))), (0, .ref h), (1, .int (nI s')), (2, .int (nI p'))]) hx hb dX2_build_12 rfl hl (by decide) rfl (fun ls hl => ?_)
  refine lv_aload_n hx hb dX2_build_13 rfl (lv_at hl 1 rfl) ?_
  refine va_get (D := D) (ci := 2) (v := .ref hu) (C := RX2) (T := TX2) (N := 5) hx hb hts hi_RX2 hown hK hP 0 rfl rfl 2 (by decide) hf_21 (fun _ h9 => h9) rfl dX2_build_14 ?_
  refine CtI.callV (n := 0) (q0 := 0) (ci := 0) (wc := CBc cyI cyZ hu u1 u2 u3 u) (wr := (OBo cyI h b1 b2 hu ht hw wr hm) ++ ((CBc cyI cyZ ht t1 t2 t3 tr) ++ (LAc cyI cyZ hw l1 l2 la))) (w1 := CBc cyI cyZ hu u1 u2 u3 (cb_bring u)) (ws' := (OBo cyI h b1 b2 hu ht hw wr hm) ++ ((CBc cyI cyZ hu u1 u2 u3 (cb_bring u)) ++ ((CBc cyI cyZ ht t1 t2 t3 tr) ++ (LAc cyI cyZ hw l1 l2 la)))) (isC := [3, 4, 5, 6]) (isR := [0, 1, 2, 7, 8, 9, 10, 11, 12, 13]) (ps := [0, 1, 2, 10, 11, 12, 13, 3, 4, 5, 6, 7, 8, 9]) (As := []) (rest := []) (c_bringU l D cyI cyZ cyJ hu u1 u2 u3 u hbd) ⟨hx, hb, hown, hts⟩ gX2_build_X0_bringAllHome rfl ⟨rfl, by decide, by decide, by decide +kernel⟩ ⟨Nat.le_of_ble_eq_true rfl, Nat.le_of_ble_eq_true rfl⟩ ⟨rfl, rfl⟩ hml hl.1 hK hP hD hS hA ⟨rfl, rfl, rfl, rfl, rfl, rfl, rfl⟩ rfl ⟨rfl, rfl⟩ rfl rfl (Nat.le_of_ble_eq_true rfl) ⟨Nat.zero_le _, Nat.zero_le _⟩ dX2_build_17 (fun H locs hP hD hS => ?_)
  refine lv_pop hx hb dX2_build_20 rfl ?_
  refine lv_aload_n hx hb dX2_build_21 rfl (lv_at hl 1 rfl) ?_
  refine va_get (D := D) (ci := 2) (v := .ref hu) (C := RX2) (T := TX2) (N := 5) hx hb hts hi_RX2 hown hK hP 0 rfl rfl 2 (by decide) hf_21 (fun _ h9 => h9) rfl dX2_build_22 ?_
  refine lv_iload_n hx hb dX2_build_25 rfl (lv_at hl 2 rfl) ?_
  refine lv_iload_n hx hb dX2_build_26 rfl (lv_at hl 3 rfl) ?_
  refine CtV.callV (n := 2) (q0 := 0) (ci := 0) (wc := CBc cyI cyZ hu u1 u2 u3 (cb_bring u)) (wr := (OBo cyI h b1 b2 hu ht hw wr hm) ++ ((CBc cyI cyZ ht t1 t2 t3 tr) ++ (LAc cyI cyZ hw l1 l2 la))) (w1 := CBc cyI cyZ hu u1 u2 u3 (cb_empty s' p' (cb_bring u))) (ws' := (OBo cyI h b1 b2 hu ht hw wr hm) ++ ((CBc cyI cyZ hu u1 u2 u3 (cb_empty s' p' (cb_bring u))) ++ ((CBc cyI cyZ ht t1 t2 t3 tr) ++ (LAc cyI cyZ hw l1 l2 la)))) (isC := [3, 4, 5, 6]) (isR := [0, 1, 2, 7, 8, 9, 10, 11, 12, 13]) (ps := [0, 1, 2, 10, 11, 12, 13, 3, 4, 5, 6, 7, 8, 9]) (As := [.int (nI s'), .int (nI p')]) (rest := []) (c_startEmptyU l D cyI cyZ cyJ hu u1 u2 u3 (cb_bring u) s' p') ⟨hx, hb, hown, hts⟩ gX2_build_X0_startEmpty rfl ⟨rfl, by decide, by decide, by decide +kernel⟩ ⟨Nat.le_of_ble_eq_true rfl, Nat.le_of_ble_eq_true rfl⟩ ⟨rfl, rfl⟩ hml hl.1 hK hP hD hS hA ⟨rfl, rfl, rfl, rfl, rfl, rfl, rfl⟩ rfl ⟨rfl, rfl⟩ rfl rfl (Nat.le_of_ble_eq_true rfl) ⟨Nat.zero_le _, Nat.zero_le _⟩ dX2_build_27 (fun H locs hP hD hS => ?_)
  refine lv_iload_n hx hb dX2_build_30 rfl (lv_at hl 0 rfl) ?_
  exact CtI.ret hQ hx hb hr hlk hK hP hD hS dX2_build_31 rfl rfl
abbrev rmX2_cast : Room := { frames := 2, cells := 0, slots := 0, locals := 44 }
set_option maxRecDepth 100000 in
set_option maxHeartbeats 4000000 in
theorem c_cast (l : Launch) (D : va_G) (cyI cyZ cyJ : ClassId) (h b1 b2 hu u1 u2 u3 ht t1 t2 t3 hw l1 l2 : Nat) (wr hm : Nat → Int32) (u tr : CBu) (la : LAu) (k q : Nat) (hbd : cb_bd u) (hk : k < u.1) (hln : cb_ln u k = some q) : CtI l yX2_cast wsX2_cast rmX2_cast D (T3 cyI cyZ cyJ) [.ref h, .int (nI k)] ((OBo cyI h b1 b2 hu ht hw wr hm) ++ ((CBc cyI cyZ hu u1 u2 u3 u) ++ ((CBc cyI cyZ ht t1 t2 t3 tr) ++ (LAc cyI cyZ hw l1 l2 la)))) (nI q) ((OBo cyI h b1 b2 hu ht hw wr hm) ++ ((CBc cyI cyZ hu u1 u2 u3 (cb_throw k u)) ++ ((CBc cyI cyZ ht t1 t2 t3 tr) ++ (LAc cyI cyZ hw l1 l2 la)))) := by
  refine CtI.of (cc := cX2_cast) (maxL := 3) (ret := (some .int)) (lv0 := [(0, .ref h), (1, .int (nI k))]) (by decide) rfl (Nat.le_of_ble_eq_true rfl) rfl ?_
  intro p e s m below meth c A ls args Q hx hb hml hr hlk hts hown hK hP hA hD hS hl hQ
  have hown : s.vm.findClass RX2 = some m.cls := hown
  have hi_RX0 : ∀ w ∈ wsX00, w ∈ wsX2_cast := by decide +kernel
  have hi_RX2 : ∀ w ∈ wsX20, w ∈ wsX2_cast := by decide +kernel
  have hf_21 := hts (.fieldLink RX2 21 "OutcastBench" "actual" "LOutcastBench$CacheAndBench;") (by decide +kernel)
  have hf_87 := hts (.fieldLink RX2 87 "OutcastBench$CacheAndBench" "lines" "[I") (by decide +kernel)
  refine lv_aload_n hx hb dX2_cast_0 rfl (lv_at hl 0 rfl) ?_
  refine lv_iload_n hx hb dX2_cast_1 rfl (lv_at hl 1 rfl) ?_
  refine CtV.callV (n := 1) (q0 := 0) (ci := 2) (wc := (OBo cyI h b1 b2 hu ht hw wr hm) ++ ((CBc cyI cyZ hu u1 u2 u3 u) ++ ((CBc cyI cyZ ht t1 t2 t3 tr) ++ (LAc cyI cyZ hw l1 l2 la)))) (wr := ([] : va_W)) (w1 := (OBo cyI h b1 b2 hu ht hw wr hm) ++ ((CBc cyI cyZ hu u1 u2 u3 u) ++ ((CBc cyI cyZ ht t1 t2 t3 tr) ++ (LAc cyI cyZ hw l1 l2 la)))) (ws' := (OBo cyI h b1 b2 hu ht hw wr hm) ++ ((CBc cyI cyZ hu u1 u2 u3 u) ++ ((CBc cyI cyZ ht t1 t2 t3 tr) ++ (LAc cyI cyZ hw l1 l2 la)))) (isC := [0, 1, 2, 3, 4, 5, 6, 7, 8, 9, 10, 11, 12, 13]) (isR := []) (ps := [0, 1, 2, 3, 4, 5, 6, 7, 8, 9, 10, 11, 12, 13]) (As := [.int (nI k)]) (rest := []) (c_requireSet l D cyI cyZ cyJ h b1 b2 hu u1 u2 u3 ht t1 t2 t3 hw l1 l2 wr hm u tr la k hbd hk) ⟨hx, hb, hown, hts⟩ gX2_cast_X2_requireSet rfl ⟨rfl, by decide, by decide, by decide +kernel⟩ ⟨Nat.le_of_ble_eq_true rfl, Nat.le_of_ble_eq_true rfl⟩ ⟨rfl, rfl⟩ hml hl.1 hK hP hD hS hA ⟨rfl, rfl, rfl, rfl, rfl, rfl, rfl⟩ rfl ⟨rfl, rfl⟩ rfl rfl (Nat.le_of_ble_eq_true rfl) ⟨Nat.zero_le _, Nat.zero_le _⟩ dX2_cast_2 (fun H locs hP hD hS => ?_)
  refine lv_aload_n hx hb dX2_cast_5 rfl (lv_at hl 0 rfl) ?_
  refine va_get (D := D) (ci := 2) (v := .ref hu) (C := RX2) (T := TX2) (N := 5) hx hb hts hi_RX2 hown hK hP 0 rfl rfl 2 (by decide) hf_21 (fun _ h9 => h9) rfl dX2_cast_6 ?_
  refine va_get (D := D) (ci := 0) (v := .ref u1) (C := RX0) (T := TX0) (N := 11) hx hb hts hi_RX0 hown hK hP 3 rfl rfl 2 (by decide) hf_87 (fun _ h9 => h9) rfl dX2_cast_9 ?_
  refine lv_iload_n hx hb dX2_cast_12 rfl (lv_at hl 1 rfl) ?_
  refine mq_ld (k := k) oI u.2.2.1 hx hb hK hP 4 0 rfl rfl (by have := cb_sc16 hbd; omega) (Nat.le_of_ble_eq_true rfl) dX2_cast_13 ?_
  rw [show oI (u.2.2.1 k) = nI q from (by rw [show u.2.2.1 k = some q from hln]; rfl)]
  refine lv_istore_n (lv' := [(2, .int (nI q)), (0, .ref h), (1, .int (nI k))]) hx hb dX2_cast_14 rfl hl (by decide) rfl (fun ls hl => ?_)
  refine lv_iload_n hx hb dX2_cast_15 rfl (lv_at hl 0 rfl) ?_
  refine lv_iconst (v := -1) hx hb dX2_cast_16 (by decide) ?_
  refine lv_icmp_ne (x := nI q) (y := -1) (tgt := 30) hx hb dX2_cast_17 (by decide) (fun c1 => ?_) (fun c1 => ?_)
  · refine lv_aload_n hx hb dX2_cast_30 rfl (lv_at hl 1 rfl) ?_
    refine va_get (D := D) (ci := 2) (v := .ref hu) (C := RX2) (T := TX2) (N := 5) hx hb hts hi_RX2 hown hK hP 0 rfl rfl 2 (by decide) hf_21 (fun _ h9 => h9) rfl dX2_cast_31 ?_
    refine lv_iload_n hx hb dX2_cast_34 rfl (lv_at hl 2 rfl) ?_
    refine CtV.callV (n := 1) (q0 := 0) (ci := 0) (wc := CBc cyI cyZ hu u1 u2 u3 u) (wr := (OBo cyI h b1 b2 hu ht hw wr hm) ++ ((CBc cyI cyZ ht t1 t2 t3 tr) ++ (LAc cyI cyZ hw l1 l2 la))) (w1 := CBc cyI cyZ hu u1 u2 u3 (cb_throw k u)) (ws' := (OBo cyI h b1 b2 hu ht hw wr hm) ++ ((CBc cyI cyZ hu u1 u2 u3 (cb_throw k u)) ++ ((CBc cyI cyZ ht t1 t2 t3 tr) ++ (LAc cyI cyZ hw l1 l2 la)))) (isC := [3, 4, 5, 6]) (isR := [0, 1, 2, 7, 8, 9, 10, 11, 12, 13]) (ps := [0, 1, 2, 10, 11, 12, 13, 3, 4, 5, 6, 7, 8, 9]) (As := [.int (nI k)]) (rest := []) (c_throwU l D cyI cyZ cyJ hu u1 u2 u3 u k (by have := cb_sc16 hbd; omega) hbd) ⟨hx, hb, hown, hts⟩ gX2_cast_X0_throwOut rfl ⟨rfl, by decide, by decide, by decide +kernel⟩ ⟨Nat.le_of_ble_eq_true rfl, Nat.le_of_ble_eq_true rfl⟩ ⟨rfl, rfl⟩ hml hl.1 hK hP hD hS hA ⟨rfl, rfl, rfl, rfl, rfl, rfl, rfl⟩ rfl ⟨rfl, rfl⟩ rfl rfl (Nat.le_of_ble_eq_true rfl) ⟨Nat.zero_le _, Nat.zero_le _⟩ dX2_cast_35 (fun H locs hP hD hS => ?_)
    refine lv_iload_n hx hb dX2_cast_38 rfl (lv_at hl 0 rfl) ?_
    exact CtI.ret hQ hx hb hr hlk hK hP hD hS dX2_cast_39 rfl rfl
  · exact absurd c1 (nI_m1 (by have := cb_ln256 hbd hln; omega))
abbrev rmX2_sets : Room := { frames := 0, cells := 0, slots := 0, locals := 0 }
set_option maxRecDepth 100000 in
set_option maxHeartbeats 4000000 in
theorem c_sets (l : Launch) (D : va_G) (cyI cyZ cyJ : ClassId) (h b1 b2 hu u1 u2 u3 ht t1 t2 t3 hw l1 l2 : Nat) (wr hm : Nat → Int32) (u tr : CBu) (la : LAu)  : CtI l yX2_sets wsX2_sets rmX2_sets D (T3 cyI cyZ cyJ) [.ref h] ((OBo cyI h b1 b2 hu ht hw wr hm) ++ ((CBc cyI cyZ hu u1 u2 u3 u) ++ ((CBc cyI cyZ ht t1 t2 t3 tr) ++ (LAc cyI cyZ hw l1 l2 la)))) (nI u.1) ((OBo cyI h b1 b2 hu ht hw wr hm) ++ ((CBc cyI cyZ hu u1 u2 u3 u) ++ ((CBc cyI cyZ ht t1 t2 t3 tr) ++ (LAc cyI cyZ hw l1 l2 la)))) := by
  refine CtI.of (cc := cX2_sets) (maxL := 1) (ret := (some .int)) (lv0 := [(0, .ref h)]) (by decide) rfl (Nat.le_of_ble_eq_true rfl) rfl ?_
  intro p e s m below meth c A ls args Q hx hb hml hr hlk hts hown hK hP hA hD hS hl hQ
  have hown : s.vm.findClass RX2 = some m.cls := hown
  have hi_RX0 : ∀ w ∈ wsX00, w ∈ wsX2_sets := by decide +kernel
  have hi_RX2 : ∀ w ∈ wsX20, w ∈ wsX2_sets := by decide +kernel
  have hf_21 := hts (.fieldLink RX2 21 "OutcastBench" "actual" "LOutcastBench$CacheAndBench;") (by decide +kernel)
  have hf_98 := hts (.fieldLink RX2 98 "OutcastBench$CacheAndBench" "setCount" "I") (by decide +kernel)
  refine lv_aload_n hx hb dX2_sets_0 rfl (lv_at hl 0 rfl) ?_
  refine va_get (D := D) (ci := 2) (v := .ref hu) (C := RX2) (T := TX2) (N := 5) hx hb hts hi_RX2 hown hK hP 0 rfl rfl 2 (by decide) hf_21 (fun _ h9 => h9) rfl dX2_sets_1 ?_
  refine va_get (D := D) (ci := 0) (v := .int (nI u.1)) (C := RX0) (T := TX0) (N := 11) hx hb hts hi_RX0 hown hK hP 3 rfl rfl 0 (by decide) hf_98 (fun _ h9 => h9) rfl dX2_sets_4 ?_
  exact CtI.ret hQ hx hb hr hlk hK hP hD hS dX2_sets_7 rfl rfl
abbrev rmX2_places : Room := { frames := 0, cells := 0, slots := 0, locals := 0 }
set_option maxRecDepth 100000 in
set_option maxHeartbeats 4000000 in
theorem c_places (l : Launch) (D : va_G) (cyI cyZ cyJ : ClassId) (h b1 b2 hu u1 u2 u3 ht t1 t2 t3 hw l1 l2 : Nat) (wr hm : Nat → Int32) (u tr : CBu) (la : LAu)  : CtI l yX2_places wsX2_places rmX2_places D (T3 cyI cyZ cyJ) [.ref h] ((OBo cyI h b1 b2 hu ht hw wr hm) ++ ((CBc cyI cyZ hu u1 u2 u3 u) ++ ((CBc cyI cyZ ht t1 t2 t3 tr) ++ (LAc cyI cyZ hw l1 l2 la)))) (nI u.2.1) ((OBo cyI h b1 b2 hu ht hw wr hm) ++ ((CBc cyI cyZ hu u1 u2 u3 u) ++ ((CBc cyI cyZ ht t1 t2 t3 tr) ++ (LAc cyI cyZ hw l1 l2 la)))) := by
  refine CtI.of (cc := cX2_places) (maxL := 1) (ret := (some .int)) (lv0 := [(0, .ref h)]) (by decide) rfl (Nat.le_of_ble_eq_true rfl) rfl ?_
  intro p e s m below meth c A ls args Q hx hb hml hr hlk hts hown hK hP hA hD hS hl hQ
  have hown : s.vm.findClass RX2 = some m.cls := hown
  have hi_RX0 : ∀ w ∈ wsX00, w ∈ wsX2_places := by decide +kernel
  have hi_RX2 : ∀ w ∈ wsX20, w ∈ wsX2_places := by decide +kernel
  have hf_21 := hts (.fieldLink RX2 21 "OutcastBench" "actual" "LOutcastBench$CacheAndBench;") (by decide +kernel)
  have hf_101 := hts (.fieldLink RX2 101 "OutcastBench$CacheAndBench" "placeCount" "I") (by decide +kernel)
  refine lv_aload_n hx hb dX2_places_0 rfl (lv_at hl 0 rfl) ?_
  refine va_get (D := D) (ci := 2) (v := .ref hu) (C := RX2) (T := TX2) (N := 5) hx hb hts hi_RX2 hown hK hP 0 rfl rfl 2 (by decide) hf_21 (fun _ h9 => h9) rfl dX2_places_1 ?_
  refine va_get (D := D) (ci := 0) (v := .int (nI u.2.1)) (C := RX0) (T := TX0) (N := 11) hx hb hts hi_RX0 hown hK hP 3 rfl rfl 1 (by decide) hf_101 (fun _ h9 => h9) rfl dX2_places_4 ?_
  exact CtI.ret hQ hx hb hr hlk hK hP hD hS dX2_places_7 rfl rfl
abbrev rmX2_sitting : Room := { frames := 0, cells := 0, slots := 0, locals := 0 }
set_option maxRecDepth 100000 in
set_option maxHeartbeats 4000000 in
theorem c_sitting (l : Launch) (D : va_G) (cyI cyZ cyJ : ClassId) (h b1 b2 hu u1 u2 u3 ht t1 t2 t3 hw l1 l2 : Nat) (wr hm : Nat → Int32) (u tr : CBu) (la : LAu)  : CtI l yX2_sitting wsX2_sitting rmX2_sitting D (T3 cyI cyZ cyJ) [.ref h] ((OBo cyI h b1 b2 hu ht hw wr hm) ++ ((CBc cyI cyZ hu u1 u2 u3 u) ++ ((CBc cyI cyZ ht t1 t2 t3 tr) ++ (LAc cyI cyZ hw l1 l2 la)))) (nI u.2.2.2.2.1) ((OBo cyI h b1 b2 hu ht hw wr hm) ++ ((CBc cyI cyZ hu u1 u2 u3 u) ++ ((CBc cyI cyZ ht t1 t2 t3 tr) ++ (LAc cyI cyZ hw l1 l2 la)))) := by
  refine CtI.of (cc := cX2_sitting) (maxL := 1) (ret := (some .int)) (lv0 := [(0, .ref h)]) (by decide) rfl (Nat.le_of_ble_eq_true rfl) rfl ?_
  intro p e s m below meth c A ls args Q hx hb hml hr hlk hts hown hK hP hA hD hS hl hQ
  have hown : s.vm.findClass RX2 = some m.cls := hown
  have hi_RX0 : ∀ w ∈ wsX00, w ∈ wsX2_sitting := by decide +kernel
  have hi_RX2 : ∀ w ∈ wsX20, w ∈ wsX2_sitting := by decide +kernel
  have hf_21 := hts (.fieldLink RX2 21 "OutcastBench" "actual" "LOutcastBench$CacheAndBench;") (by decide +kernel)
  have hf_104 := hts (.fieldLink RX2 104 "OutcastBench$CacheAndBench" "seated" "I") (by decide +kernel)
  refine lv_aload_n hx hb dX2_sitting_0 rfl (lv_at hl 0 rfl) ?_
  refine va_get (D := D) (ci := 2) (v := .ref hu) (C := RX2) (T := TX2) (N := 5) hx hb hts hi_RX2 hown hK hP 0 rfl rfl 2 (by decide) hf_21 (fun _ h9 => h9) rfl dX2_sitting_1 ?_
  refine va_get (D := D) (ci := 0) (v := .int (nI u.2.2.2.2.1)) (C := RX0) (T := TX0) (N := 11) hx hb hts hi_RX0 hown hK hP 3 rfl rfl 4 (by decide) hf_104 (fun _ h9 => h9) rfl dX2_sitting_4 ?_
  exact CtI.ret hQ hx hb hr hlk hK hP hD hS dX2_sitting_7 rfl rfl
abbrev rmX2_hits : Room := { frames := 0, cells := 0, slots := 0, locals := 0 }
set_option maxRecDepth 100000 in
set_option maxHeartbeats 4000000 in
theorem c_hits (l : Launch) (D : va_G) (cyI cyZ cyJ : ClassId) (h b1 b2 hu u1 u2 u3 ht t1 t2 t3 hw l1 l2 : Nat) (wr hm : Nat → Int32) (u tr : CBu) (la : LAu)  : CtI l yX2_hits wsX2_hits rmX2_hits D (T3 cyI cyZ cyJ) [.ref h] ((OBo cyI h b1 b2 hu ht hw wr hm) ++ ((CBc cyI cyZ hu u1 u2 u3 u) ++ ((CBc cyI cyZ ht t1 t2 t3 tr) ++ (LAc cyI cyZ hw l1 l2 la)))) (u.2.2.2.2.2.2.1) ((OBo cyI h b1 b2 hu ht hw wr hm) ++ ((CBc cyI cyZ hu u1 u2 u3 u) ++ ((CBc cyI cyZ ht t1 t2 t3 tr) ++ (LAc cyI cyZ hw l1 l2 la)))) := by
  refine CtI.of (cc := cX2_hits) (maxL := 1) (ret := (some .int)) (lv0 := [(0, .ref h)]) (by decide) rfl (Nat.le_of_ble_eq_true rfl) rfl ?_
  intro p e s m below meth c A ls args Q hx hb hml hr hlk hts hown hK hP hA hD hS hl hQ
  have hown : s.vm.findClass RX2 = some m.cls := hown
  have hi_RX0 : ∀ w ∈ wsX00, w ∈ wsX2_hits := by decide +kernel
  have hi_RX2 : ∀ w ∈ wsX20, w ∈ wsX2_hits := by decide +kernel
  have hf_21 := hts (.fieldLink RX2 21 "OutcastBench" "actual" "LOutcastBench$CacheAndBench;") (by decide +kernel)
  have hf_124 := hts (.fieldLink RX2 124 "OutcastBench$CacheAndBench" "hitCount" "I") (by decide +kernel)
  refine lv_aload_n hx hb dX2_hits_0 rfl (lv_at hl 0 rfl) ?_
  refine va_get (D := D) (ci := 2) (v := .ref hu) (C := RX2) (T := TX2) (N := 5) hx hb hts hi_RX2 hown hK hP 0 rfl rfl 2 (by decide) hf_21 (fun _ h9 => h9) rfl dX2_hits_1 ?_
  refine va_get (D := D) (ci := 0) (v := .int u.2.2.2.2.2.2.1) (C := RX0) (T := TX0) (N := 11) hx hb hts hi_RX0 hown hK hP 3 rfl rfl 6 (by decide) hf_124 (fun _ h9 => h9) rfl dX2_hits_4 ?_
  exact CtI.ret hQ hx hb hr hlk hK hP hD hS dX2_hits_7 rfl rfl
abbrev rmX2_swaps : Room := { frames := 0, cells := 0, slots := 0, locals := 0 }
set_option maxRecDepth 100000 in
set_option maxHeartbeats 4000000 in
theorem c_swaps (l : Launch) (D : va_G) (cyI cyZ cyJ : ClassId) (h b1 b2 hu u1 u2 u3 ht t1 t2 t3 hw l1 l2 : Nat) (wr hm : Nat → Int32) (u tr : CBu) (la : LAu)  : CtI l yX2_swaps wsX2_swaps rmX2_swaps D (T3 cyI cyZ cyJ) [.ref h] ((OBo cyI h b1 b2 hu ht hw wr hm) ++ ((CBc cyI cyZ hu u1 u2 u3 u) ++ ((CBc cyI cyZ ht t1 t2 t3 tr) ++ (LAc cyI cyZ hw l1 l2 la)))) (u.2.2.2.2.2.2.2.1) ((OBo cyI h b1 b2 hu ht hw wr hm) ++ ((CBc cyI cyZ hu u1 u2 u3 u) ++ ((CBc cyI cyZ ht t1 t2 t3 tr) ++ (LAc cyI cyZ hw l1 l2 la)))) := by
  refine CtI.of (cc := cX2_swaps) (maxL := 1) (ret := (some .int)) (lv0 := [(0, .ref h)]) (by decide) rfl (Nat.le_of_ble_eq_true rfl) rfl ?_
  intro p e s m below meth c A ls args Q hx hb hml hr hlk hts hown hK hP hA hD hS hl hQ
  have hown : s.vm.findClass RX2 = some m.cls := hown
  have hi_RX0 : ∀ w ∈ wsX00, w ∈ wsX2_swaps := by decide +kernel
  have hi_RX2 : ∀ w ∈ wsX20, w ∈ wsX2_swaps := by decide +kernel
  have hf_21 := hts (.fieldLink RX2 21 "OutcastBench" "actual" "LOutcastBench$CacheAndBench;") (by decide +kernel)
  have hf_127 := hts (.fieldLink RX2 127 "OutcastBench$CacheAndBench" "swapCount" "I") (by decide +kernel)
  refine lv_aload_n hx hb dX2_swaps_0 rfl (lv_at hl 0 rfl) ?_
  refine va_get (D := D) (ci := 2) (v := .ref hu) (C := RX2) (T := TX2) (N := 5) hx hb hts hi_RX2 hown hK hP 0 rfl rfl 2 (by decide) hf_21 (fun _ h9 => h9) rfl dX2_swaps_1 ?_
  refine va_get (D := D) (ci := 0) (v := .int u.2.2.2.2.2.2.2.1) (C := RX0) (T := TX0) (N := 11) hx hb hts hi_RX0 hown hK hP 3 rfl rfl 7 (by decide) hf_127 (fun _ h9 => h9) rfl dX2_swaps_4 ?_
  exact CtI.ret hQ hx hb hr hlk hK hP hD hS dX2_swaps_7 rfl rfl
abbrev rmX2_misses : Room := { frames := 0, cells := 0, slots := 0, locals := 0 }
set_option maxRecDepth 100000 in
set_option maxHeartbeats 4000000 in
theorem c_misses (l : Launch) (D : va_G) (cyI cyZ cyJ : ClassId) (h b1 b2 hu u1 u2 u3 ht t1 t2 t3 hw l1 l2 : Nat) (wr hm : Nat → Int32) (u tr : CBu) (la : LAu)  : CtI l yX2_misses wsX2_misses rmX2_misses D (T3 cyI cyZ cyJ) [.ref h] ((OBo cyI h b1 b2 hu ht hw wr hm) ++ ((CBc cyI cyZ hu u1 u2 u3 u) ++ ((CBc cyI cyZ ht t1 t2 t3 tr) ++ (LAc cyI cyZ hw l1 l2 la)))) (u.2.2.2.2.2.2.2.2.1) ((OBo cyI h b1 b2 hu ht hw wr hm) ++ ((CBc cyI cyZ hu u1 u2 u3 u) ++ ((CBc cyI cyZ ht t1 t2 t3 tr) ++ (LAc cyI cyZ hw l1 l2 la)))) := by
  refine CtI.of (cc := cX2_misses) (maxL := 1) (ret := (some .int)) (lv0 := [(0, .ref h)]) (by decide) rfl (Nat.le_of_ble_eq_true rfl) rfl ?_
  intro p e s m below meth c A ls args Q hx hb hml hr hlk hts hown hK hP hA hD hS hl hQ
  have hown : s.vm.findClass RX2 = some m.cls := hown
  have hi_RX0 : ∀ w ∈ wsX00, w ∈ wsX2_misses := by decide +kernel
  have hi_RX2 : ∀ w ∈ wsX20, w ∈ wsX2_misses := by decide +kernel
  have hf_21 := hts (.fieldLink RX2 21 "OutcastBench" "actual" "LOutcastBench$CacheAndBench;") (by decide +kernel)
  have hf_130 := hts (.fieldLink RX2 130 "OutcastBench$CacheAndBench" "missCount" "I") (by decide +kernel)
  refine lv_aload_n hx hb dX2_misses_0 rfl (lv_at hl 0 rfl) ?_
  refine va_get (D := D) (ci := 2) (v := .ref hu) (C := RX2) (T := TX2) (N := 5) hx hb hts hi_RX2 hown hK hP 0 rfl rfl 2 (by decide) hf_21 (fun _ h9 => h9) rfl dX2_misses_1 ?_
  refine va_get (D := D) (ci := 0) (v := .int u.2.2.2.2.2.2.2.2.1) (C := RX0) (T := TX0) (N := 11) hx hb hts hi_RX0 hown hK hP 3 rfl rfl 8 (by decide) hf_130 (fun _ h9 => h9) rfl dX2_misses_4 ?_
  exact CtI.ret hQ hx hb hr hlk hK hP hD hS dX2_misses_7 rfl rfl
abbrev rmX2_homecomings : Room := { frames := 0, cells := 0, slots := 0, locals := 0 }
set_option maxRecDepth 100000 in
set_option maxHeartbeats 4000000 in
theorem c_homecomings (l : Launch) (D : va_G) (cyI cyZ cyJ : ClassId) (h b1 b2 hu u1 u2 u3 ht t1 t2 t3 hw l1 l2 : Nat) (wr hm : Nat → Int32) (u tr : CBu) (la : LAu)  : CtI l yX2_homecomings wsX2_homecomings rmX2_homecomings D (T3 cyI cyZ cyJ) [.ref h] ((OBo cyI h b1 b2 hu ht hw wr hm) ++ ((CBc cyI cyZ hu u1 u2 u3 u) ++ ((CBc cyI cyZ ht t1 t2 t3 tr) ++ (LAc cyI cyZ hw l1 l2 la)))) (cb_hc u) ((OBo cyI h b1 b2 hu ht hw wr hm) ++ ((CBc cyI cyZ hu u1 u2 u3 u) ++ ((CBc cyI cyZ ht t1 t2 t3 tr) ++ (LAc cyI cyZ hw l1 l2 la)))) := by
  refine CtI.of (cc := cX2_homecomings) (maxL := 1) (ret := (some .int)) (lv0 := [(0, .ref h)]) (by decide) rfl (Nat.le_of_ble_eq_true rfl) rfl ?_
  intro p e s m below meth c A ls args Q hx hb hml hr hlk hts hown hK hP hA hD hS hl hQ
  have hown : s.vm.findClass RX2 = some m.cls := hown
  have hi_RX0 : ∀ w ∈ wsX00, w ∈ wsX2_homecomings := by decide +kernel
  have hi_RX2 : ∀ w ∈ wsX20, w ∈ wsX2_homecomings := by decide +kernel
  have hf_21 := hts (.fieldLink RX2 21 "OutcastBench" "actual" "LOutcastBench$CacheAndBench;") (by decide +kernel)
  have hf_133 := hts (.fieldLink RX2 133 "OutcastBench$CacheAndBench" "homecomingCount" "I") (by decide +kernel)
  refine lv_aload_n hx hb dX2_homecomings_0 rfl (lv_at hl 0 rfl) ?_
  refine va_get (D := D) (ci := 2) (v := .ref hu) (C := RX2) (T := TX2) (N := 5) hx hb hts hi_RX2 hown hK hP 0 rfl rfl 2 (by decide) hf_21 (fun _ h9 => h9) rfl dX2_homecomings_1 ?_
  refine va_get (D := D) (ci := 0) (v := .int u.2.2.2.2.2.2.2.2.2.1) (C := RX0) (T := TX0) (N := 11) hx hb hts hi_RX0 hown hK hP 3 rfl rfl 9 (by decide) hf_133 (fun _ h9 => h9) rfl dX2_homecomings_4 ?_
  exact CtI.ret hQ hx hb hr hlk hK hP hD hS dX2_homecomings_7 rfl rfl
abbrev rmX2_cost : Room := { frames := 0, cells := 0, slots := 0, locals := 0 }
set_option maxRecDepth 100000 in
set_option maxHeartbeats 4000000 in
theorem c_cost (l : Launch) (D : va_G) (cyI cyZ cyJ : ClassId) (h b1 b2 hu u1 u2 u3 ht t1 t2 t3 hw l1 l2 : Nat) (wr hm : Nat → Int32) (u tr : CBu) (la : LAu)  : CtI l yX2_cost wsX2_cost rmX2_cost D (T3 cyI cyZ cyJ) [.ref h] ((OBo cyI h b1 b2 hu ht hw wr hm) ++ ((CBc cyI cyZ hu u1 u2 u3 u) ++ ((CBc cyI cyZ ht t1 t2 t3 tr) ++ (LAc cyI cyZ hw l1 l2 la)))) (cb_co u) ((OBo cyI h b1 b2 hu ht hw wr hm) ++ ((CBc cyI cyZ hu u1 u2 u3 u) ++ ((CBc cyI cyZ ht t1 t2 t3 tr) ++ (LAc cyI cyZ hw l1 l2 la)))) := by
  refine CtI.of (cc := cX2_cost) (maxL := 1) (ret := (some .int)) (lv0 := [(0, .ref h)]) (by decide) rfl (Nat.le_of_ble_eq_true rfl) rfl ?_
  intro p e s m below meth c A ls args Q hx hb hml hr hlk hts hown hK hP hA hD hS hl hQ
  have hown : s.vm.findClass RX2 = some m.cls := hown
  have hi_RX0 : ∀ w ∈ wsX00, w ∈ wsX2_cost := by decide +kernel
  have hi_RX2 : ∀ w ∈ wsX20, w ∈ wsX2_cost := by decide +kernel
  have hf_21 := hts (.fieldLink RX2 21 "OutcastBench" "actual" "LOutcastBench$CacheAndBench;") (by decide +kernel)
  have hf_61 := hts (.fieldLink RX2 61 "OutcastBench$CacheAndBench" "costSoFar" "I") (by decide +kernel)
  refine lv_aload_n hx hb dX2_cost_0 rfl (lv_at hl 0 rfl) ?_
  refine va_get (D := D) (ci := 2) (v := .ref hu) (C := RX2) (T := TX2) (N := 5) hx hb hts hi_RX2 hown hK hP 0 rfl rfl 2 (by decide) hf_21 (fun _ h9 => h9) rfl dX2_cost_1 ?_
  refine va_get (D := D) (ci := 0) (v := .int u.2.2.2.2.2.2.2.2.2.2) (C := RX0) (T := TX0) (N := 11) hx hb hts hi_RX0 hown hK hP 3 rfl rfl 10 (by decide) hf_61 (fun _ h9 => h9) rfl dX2_cost_4 ?_
  exact CtI.ret hQ hx hb hr hlk hK hP hD hS dX2_cost_7 rfl rfl
abbrev rmX2_lineIn : Room := { frames := 1, cells := 0, slots := 0, locals := 21 }
set_option maxRecDepth 100000 in
set_option maxHeartbeats 4000000 in
theorem c_lineIn (l : Launch) (D : va_G) (cyI cyZ cyJ : ClassId) (h b1 b2 hu u1 u2 u3 ht t1 t2 t3 hw l1 l2 : Nat) (wr hm : Nat → Int32) (u tr : CBu) (la : LAu) (k : Nat) (hbd : cb_bd u) (hk : k < u.1) : CtI l yX2_lineIn wsX2_lineIn rmX2_lineIn D (T3 cyI cyZ cyJ) [.ref h, .int (nI k)] ((OBo cyI h b1 b2 hu ht hw wr hm) ++ ((CBc cyI cyZ hu u1 u2 u3 u) ++ ((CBc cyI cyZ ht t1 t2 t3 tr) ++ (LAc cyI cyZ hw l1 l2 la)))) (oI (cb_ln u k)) ((OBo cyI h b1 b2 hu ht hw wr hm) ++ ((CBc cyI cyZ hu u1 u2 u3 u) ++ ((CBc cyI cyZ ht t1 t2 t3 tr) ++ (LAc cyI cyZ hw l1 l2 la)))) := by
  refine CtI.of (cc := cX2_lineIn) (maxL := 2) (ret := (some .int)) (lv0 := [(0, .ref h), (1, .int (nI k))]) (by decide) rfl (Nat.le_of_ble_eq_true rfl) rfl ?_
  intro p e s m below meth c A ls args Q hx hb hml hr hlk hts hown hK hP hA hD hS hl hQ
  have hown : s.vm.findClass RX2 = some m.cls := hown
  have hi_RX0 : ∀ w ∈ wsX00, w ∈ wsX2_lineIn := by decide +kernel
  have hi_RX2 : ∀ w ∈ wsX20, w ∈ wsX2_lineIn := by decide +kernel
  have hf_21 := hts (.fieldLink RX2 21 "OutcastBench" "actual" "LOutcastBench$CacheAndBench;") (by decide +kernel)
  have hf_87 := hts (.fieldLink RX2 87 "OutcastBench$CacheAndBench" "lines" "[I") (by decide +kernel)
  refine lv_aload_n hx hb dX2_lineIn_0 rfl (lv_at hl 0 rfl) ?_
  refine lv_iload_n hx hb dX2_lineIn_1 rfl (lv_at hl 1 rfl) ?_
  refine CtV.callV (n := 1) (q0 := 0) (ci := 2) (wc := (OBo cyI h b1 b2 hu ht hw wr hm) ++ ((CBc cyI cyZ hu u1 u2 u3 u) ++ ((CBc cyI cyZ ht t1 t2 t3 tr) ++ (LAc cyI cyZ hw l1 l2 la)))) (wr := ([] : va_W)) (w1 := (OBo cyI h b1 b2 hu ht hw wr hm) ++ ((CBc cyI cyZ hu u1 u2 u3 u) ++ ((CBc cyI cyZ ht t1 t2 t3 tr) ++ (LAc cyI cyZ hw l1 l2 la)))) (ws' := (OBo cyI h b1 b2 hu ht hw wr hm) ++ ((CBc cyI cyZ hu u1 u2 u3 u) ++ ((CBc cyI cyZ ht t1 t2 t3 tr) ++ (LAc cyI cyZ hw l1 l2 la)))) (isC := [0, 1, 2, 3, 4, 5, 6, 7, 8, 9, 10, 11, 12, 13]) (isR := []) (ps := [0, 1, 2, 3, 4, 5, 6, 7, 8, 9, 10, 11, 12, 13]) (As := [.int (nI k)]) (rest := []) (c_requireSet l D cyI cyZ cyJ h b1 b2 hu u1 u2 u3 ht t1 t2 t3 hw l1 l2 wr hm u tr la k hbd hk) ⟨hx, hb, hown, hts⟩ gX2_lineIn_X2_requireSet rfl ⟨rfl, by decide, by decide, by decide +kernel⟩ ⟨Nat.le_of_ble_eq_true rfl, Nat.le_of_ble_eq_true rfl⟩ ⟨rfl, rfl⟩ hml hl.1 hK hP hD hS hA ⟨rfl, rfl, rfl, rfl, rfl, rfl, rfl⟩ rfl ⟨rfl, rfl⟩ rfl rfl (Nat.le_of_ble_eq_true rfl) ⟨Nat.zero_le _, Nat.zero_le _⟩ dX2_lineIn_2 (fun H locs hP hD hS => ?_)
  refine lv_aload_n hx hb dX2_lineIn_5 rfl (lv_at hl 0 rfl) ?_
  refine va_get (D := D) (ci := 2) (v := .ref hu) (C := RX2) (T := TX2) (N := 5) hx hb hts hi_RX2 hown hK hP 0 rfl rfl 2 (by decide) hf_21 (fun _ h9 => h9) rfl dX2_lineIn_6 ?_
  refine va_get (D := D) (ci := 0) (v := .ref u1) (C := RX0) (T := TX0) (N := 11) hx hb hts hi_RX0 hown hK hP 3 rfl rfl 2 (by decide) hf_87 (fun _ h9 => h9) rfl dX2_lineIn_9 ?_
  refine lv_iload_n hx hb dX2_lineIn_12 rfl (lv_at hl 1 rfl) ?_
  refine mq_ld (k := k) oI u.2.2.1 hx hb hK hP 4 0 rfl rfl (by have := cb_sc16 hbd; omega) (Nat.le_of_ble_eq_true rfl) dX2_lineIn_13 ?_
  exact CtI.ret hQ hx hb hr hlk hK hP hD hS dX2_lineIn_14 rfl rfl
abbrev rmX2_lineOnBench : Room := { frames := 0, cells := 0, slots := 0, locals := 0 }
set_option maxRecDepth 100000 in
set_option maxHeartbeats 4000000 in
theorem c_lineOnBench (l : Launch) (D : va_G) (cyI cyZ cyJ : ClassId) (h b1 b2 hu u1 u2 u3 ht t1 t2 t3 hw l1 l2 : Nat) (wr hm : Nat → Int32) (u tr : CBu) (la : LAu) (k : Nat) (hbd : cb_bd u) (hk : k < u.2.2.2.2.1) : CtI l yX2_lineOnBench wsX2_lineOnBench rmX2_lineOnBench D (T3 cyI cyZ cyJ) [.ref h, .int (nI k)] ((OBo cyI h b1 b2 hu ht hw wr hm) ++ ((CBc cyI cyZ hu u1 u2 u3 u) ++ ((CBc cyI cyZ ht t1 t2 t3 tr) ++ (LAc cyI cyZ hw l1 l2 la)))) (nI (u.2.2.2.1 (u.2.2.2.2.1 - 1 - k))) ((OBo cyI h b1 b2 hu ht hw wr hm) ++ ((CBc cyI cyZ hu u1 u2 u3 u) ++ ((CBc cyI cyZ ht t1 t2 t3 tr) ++ (LAc cyI cyZ hw l1 l2 la)))) := by
  refine CtI.of (cc := cX2_lineOnBench) (maxL := 2) (ret := (some .int)) (lv0 := [(0, .ref h), (1, .int (nI k))]) (by decide) rfl (Nat.le_of_ble_eq_true rfl) rfl ?_
  intro p e s m below meth c A ls args Q hx hb hml hr hlk hts hown hK hP hA hD hS hl hQ
  have hown : s.vm.findClass RX2 = some m.cls := hown
  have hi_RX0 : ∀ w ∈ wsX00, w ∈ wsX2_lineOnBench := by decide +kernel
  have hi_RX2 : ∀ w ∈ wsX20, w ∈ wsX2_lineOnBench := by decide +kernel
  have hf_21 := hts (.fieldLink RX2 21 "OutcastBench" "actual" "LOutcastBench$CacheAndBench;") (by decide +kernel)
  have hf_104 := hts (.fieldLink RX2 104 "OutcastBench$CacheAndBench" "seated" "I") (by decide +kernel)
  have hf_112 := hts (.fieldLink RX2 112 "OutcastBench$CacheAndBench" "bench" "[I") (by decide +kernel)
  have hn8 := cb_n8 hbd
  refine lv_iload_n hx hb dX2_lineOnBench_0 rfl (lv_at hl 1 rfl) ?_
  refine lv_if_lt (x := nI k) (tgt := 15) hx hb dX2_lineOnBench_1 (by decide) (fun c1 => ?_) (fun c1 => ?_)
  · exact absurd c1 (nI_pos (by omega))
  · refine lv_iload_n hx hb dX2_lineOnBench_4 rfl (lv_at hl 1 rfl) ?_
    refine lv_aload_n hx hb dX2_lineOnBench_5 rfl (lv_at hl 0 rfl) ?_
    refine va_get (D := D) (ci := 2) (v := .ref hu) (C := RX2) (T := TX2) (N := 5) hx hb hts hi_RX2 hown hK hP 0 rfl rfl 2 (by decide) hf_21 (fun _ h9 => h9) rfl dX2_lineOnBench_6 ?_
    refine va_get (D := D) (ci := 0) (v := .int (nI u.2.2.2.2.1)) (C := RX0) (T := TX0) (N := 11) hx hb hts hi_RX0 hown hK hP 3 rfl rfl 4 (by decide) hf_104 (fun _ h9 => h9) rfl dX2_lineOnBench_9 ?_
    refine mq_lt (x := k) (y := u.2.2.2.2.1) (tgt := 25) (by omega) (by omega) hx hb dX2_lineOnBench_12 (by decide) (fun c2 => ?_) (fun c2 => ?_)
    · refine lv_aload_n hx hb dX2_lineOnBench_25 rfl (lv_at hl 0 rfl) ?_
      refine va_get (D := D) (ci := 2) (v := .ref hu) (C := RX2) (T := TX2) (N := 5) hx hb hts hi_RX2 hown hK hP 0 rfl rfl 2 (by decide) hf_21 (fun _ h9 => h9) rfl dX2_lineOnBench_26 ?_
      refine va_get (D := D) (ci := 0) (v := .ref u2) (C := RX0) (T := TX0) (N := 11) hx hb hts hi_RX0 hown hK hP 3 rfl rfl 3 (by decide) hf_112 (fun _ h9 => h9) rfl dX2_lineOnBench_29 ?_
      refine lv_aload_n hx hb dX2_lineOnBench_32 rfl (lv_at hl 0 rfl) ?_
      refine va_get (D := D) (ci := 2) (v := .ref hu) (C := RX2) (T := TX2) (N := 5) hx hb hts hi_RX2 hown hK hP 0 rfl rfl 2 (by decide) hf_21 (fun _ h9 => h9) rfl dX2_lineOnBench_33 ?_
      refine va_get (D := D) (ci := 0) (v := .int (nI u.2.2.2.2.1)) (C := RX0) (T := TX0) (N := 11) hx hb hts hi_RX0 hown hK hP 3 rfl rfl 4 (by decide) hf_104 (fun _ h9 => h9) rfl dX2_lineOnBench_36 ?_
      refine lv_iconst (v := nI 1) hx hb dX2_lineOnBench_39 (by decide) ?_
      refine mq_isub (x := u.2.2.2.2.1) (y := 1) (by omega) hx hb dX2_lineOnBench_40 ?_
      refine lv_iload_n hx hb dX2_lineOnBench_41 rfl (lv_at hl 1 rfl) ?_
      refine mq_isub (x := (u.2.2.2.2.1 - 1)) (y := k) (by omega) hx hb dX2_lineOnBench_42 ?_
      refine mq_ld (k := (u.2.2.2.2.1 - 1 - k)) nI u.2.2.2.1 hx hb hK hP 5 0 rfl rfl (by omega) (Nat.le_of_ble_eq_true rfl) dX2_lineOnBench_43 ?_
      exact CtI.ret hQ hx hb hr hlk hK hP hD hS dX2_lineOnBench_44 rfl rfl
    · exact absurd hk (by omega)
abbrev rmX2_placeOf : Room := { frames := 2, cells := 0, slots := 0, locals := 43 }
set_option maxRecDepth 100000 in
set_option maxHeartbeats 4000000 in
theorem c_placeOf (l : Launch) (D : va_G) (cyI cyZ cyJ : ClassId) (h b1 b2 hu u1 u2 u3 ht t1 t2 t3 hw l1 l2 : Nat) (wr hm : Nat → Int32) (u tr : CBu) (la : LAu) (q : Nat) (hbd : cb_bd u) (hq : q < 256) : CtI l yX2_placeOf wsX2_placeOf rmX2_placeOf D (T3 cyI cyZ cyJ) [.ref h, .int (nI q)] ((OBo cyI h b1 b2 hu ht hw wr hm) ++ ((CBc cyI cyZ hu u1 u2 u3 u) ++ ((CBc cyI cyZ ht t1 t2 t3 tr) ++ (LAc cyI cyZ hw l1 l2 la)))) (nI (cb_where q u)) ((OBo cyI h b1 b2 hu ht hw wr hm) ++ ((CBc cyI cyZ hu u1 u2 u3 u) ++ ((CBc cyI cyZ ht t1 t2 t3 tr) ++ (LAc cyI cyZ hw l1 l2 la)))) := by
  refine CtI.of (cc := cX2_placeOf) (maxL := 2) (ret := (some .int)) (lv0 := [(0, .ref h), (1, .int (nI q))]) (by decide) rfl (Nat.le_of_ble_eq_true rfl) rfl ?_
  intro p e s m below meth c A ls args Q hx hb hml hr hlk hts hown hK hP hA hD hS hl hQ
  have hown : s.vm.findClass RX2 = some m.cls := hown
  have hi_RX2 : ∀ w ∈ wsX20, w ∈ wsX2_placeOf := by decide +kernel
  have hf_21 := hts (.fieldLink RX2 21 "OutcastBench" "actual" "LOutcastBench$CacheAndBench;") (by decide +kernel)
  refine lv_iload_n hx hb dX2_placeOf_0 rfl (lv_at hl 1 rfl) ?_
  refine CtV.callS (n := 1) (wc := ([] : va_W)) (wr := (OBo cyI h b1 b2 hu ht hw wr hm) ++ ((CBc cyI cyZ hu u1 u2 u3 u) ++ ((CBc cyI cyZ ht t1 t2 t3 tr) ++ (LAc cyI cyZ hw l1 l2 la)))) (w1 := ([] : va_W)) (ws' := (OBo cyI h b1 b2 hu ht hw wr hm) ++ ((CBc cyI cyZ hu u1 u2 u3 u) ++ ((CBc cyI cyZ ht t1 t2 t3 tr) ++ (LAc cyI cyZ hw l1 l2 la)))) (isC := []) (isR := [0, 1, 2, 3, 4, 5, 6, 7, 8, 9, 10, 11, 12, 13]) (ps := [0, 1, 2, 3, 4, 5, 6, 7, 8, 9, 10, 11, 12, 13]) (As := [.int (nI q)]) (rest := []) (c_requireLine l D cyI cyZ cyJ q hq) ⟨hx, hb, hown, hts⟩ gX2_placeOf_X2_requireLine rfl ⟨by decide, by decide, by decide +kernel⟩ ⟨Nat.le_of_ble_eq_true rfl, Nat.le_of_ble_eq_true rfl⟩ ⟨rfl, rfl⟩ hml hl.1 hK hP hD hS hA ⟨rfl, rfl, rfl, rfl, rfl, rfl, rfl⟩ rfl rfl (Nat.le_of_ble_eq_true rfl) ⟨Nat.zero_le _, Nat.zero_le _⟩ dX2_placeOf_1 (fun H locs hP hD hS => ?_)
  refine lv_aload_n hx hb dX2_placeOf_4 rfl (lv_at hl 0 rfl) ?_
  refine va_get (D := D) (ci := 2) (v := .ref hu) (C := RX2) (T := TX2) (N := 5) hx hb hts hi_RX2 hown hK hP 0 rfl rfl 2 (by decide) hf_21 (fun _ h9 => h9) rfl dX2_placeOf_5 ?_
  refine lv_iload_n hx hb dX2_placeOf_8 rfl (lv_at hl 1 rfl) ?_
  refine CtI.callV (n := 1) (q0 := 0) (ci := 0) (wc := CBc cyI cyZ hu u1 u2 u3 u) (wr := (OBo cyI h b1 b2 hu ht hw wr hm) ++ ((CBc cyI cyZ ht t1 t2 t3 tr) ++ (LAc cyI cyZ hw l1 l2 la))) (w1 := CBc cyI cyZ hu u1 u2 u3 u) (ws' := (OBo cyI h b1 b2 hu ht hw wr hm) ++ ((CBc cyI cyZ hu u1 u2 u3 u) ++ ((CBc cyI cyZ ht t1 t2 t3 tr) ++ (LAc cyI cyZ hw l1 l2 la)))) (isC := [3, 4, 5, 6]) (isR := [0, 1, 2, 7, 8, 9, 10, 11, 12, 13]) (ps := [0, 1, 2, 10, 11, 12, 13, 3, 4, 5, 6, 7, 8, 9]) (As := [.int (nI q)]) (rest := []) (c_whereIsU l D cyI cyZ cyJ hu u1 u2 u3 u q hbd hq) ⟨hx, hb, hown, hts⟩ gX2_placeOf_X0_whereIs rfl ⟨rfl, by decide, by decide, by decide +kernel⟩ ⟨Nat.le_of_ble_eq_true rfl, Nat.le_of_ble_eq_true rfl⟩ ⟨rfl, rfl⟩ hml hl.1 hK hP hD hS hA ⟨rfl, rfl, rfl, rfl, rfl, rfl, rfl⟩ rfl ⟨rfl, rfl⟩ rfl rfl (Nat.le_of_ble_eq_true rfl) ⟨Nat.zero_le _, Nat.zero_le _⟩ dX2_placeOf_9 (fun H locs hP hD hS => ?_)
  exact CtI.ret hQ hx hb hr hlk hK hP hD hS dX2_placeOf_12 rfl rfl
abbrev rmX2_isDirty : Room := { frames := 1, cells := 0, slots := 0, locals := 21 }
set_option maxRecDepth 100000 in
set_option maxHeartbeats 4000000 in
theorem c_isDirty (l : Launch) (D : va_G) (cyI cyZ cyJ : ClassId) (h b1 b2 hu u1 u2 u3 ht t1 t2 t3 hw l1 l2 : Nat) (wr hm : Nat → Int32) (u tr : CBu) (la : LAu) (q : Nat) (hq : q < 256) : CtI l yX2_isDirty wsX2_isDirty rmX2_isDirty D (T3 cyI cyZ cyJ) [.ref h, .int (nI q)] ((OBo cyI h b1 b2 hu ht hw wr hm) ++ ((CBc cyI cyZ hu u1 u2 u3 u) ++ ((CBc cyI cyZ ht t1 t2 t3 tr) ++ (LAc cyI cyZ hw l1 l2 la)))) (bI (cb_dt u q)) ((OBo cyI h b1 b2 hu ht hw wr hm) ++ ((CBc cyI cyZ hu u1 u2 u3 u) ++ ((CBc cyI cyZ ht t1 t2 t3 tr) ++ (LAc cyI cyZ hw l1 l2 la)))) := by
  refine CtI.of (cc := cX2_isDirty) (maxL := 2) (ret := (some .boolean)) (lv0 := [(0, .ref h), (1, .int (nI q))]) (by decide) rfl (Nat.le_of_ble_eq_true rfl) rfl ?_
  intro p e s m below meth c A ls args Q hx hb hml hr hlk hts hown hK hP hA hD hS hl hQ
  have hown : s.vm.findClass RX2 = some m.cls := hown
  have hi_RX0 : ∀ w ∈ wsX00, w ∈ wsX2_isDirty := by decide +kernel
  have hi_RX2 : ∀ w ∈ wsX20, w ∈ wsX2_isDirty := by decide +kernel
  have hf_21 := hts (.fieldLink RX2 21 "OutcastBench" "actual" "LOutcastBench$CacheAndBench;") (by decide +kernel)
  have hf_47 := hts (.fieldLink RX2 47 "OutcastBench$CacheAndBench" "dirtyLines" "[Z") (by decide +kernel)
  refine lv_iload_n hx hb dX2_isDirty_0 rfl (lv_at hl 1 rfl) ?_
  refine CtV.callS (n := 1) (wc := ([] : va_W)) (wr := (OBo cyI h b1 b2 hu ht hw wr hm) ++ ((CBc cyI cyZ hu u1 u2 u3 u) ++ ((CBc cyI cyZ ht t1 t2 t3 tr) ++ (LAc cyI cyZ hw l1 l2 la)))) (w1 := ([] : va_W)) (ws' := (OBo cyI h b1 b2 hu ht hw wr hm) ++ ((CBc cyI cyZ hu u1 u2 u3 u) ++ ((CBc cyI cyZ ht t1 t2 t3 tr) ++ (LAc cyI cyZ hw l1 l2 la)))) (isC := []) (isR := [0, 1, 2, 3, 4, 5, 6, 7, 8, 9, 10, 11, 12, 13]) (ps := [0, 1, 2, 3, 4, 5, 6, 7, 8, 9, 10, 11, 12, 13]) (As := [.int (nI q)]) (rest := []) (c_requireLine l D cyI cyZ cyJ q hq) ⟨hx, hb, hown, hts⟩ gX2_isDirty_X2_requireLine rfl ⟨by decide, by decide, by decide +kernel⟩ ⟨Nat.le_of_ble_eq_true rfl, Nat.le_of_ble_eq_true rfl⟩ ⟨rfl, rfl⟩ hml hl.1 hK hP hD hS hA ⟨rfl, rfl, rfl, rfl, rfl, rfl, rfl⟩ rfl rfl (Nat.le_of_ble_eq_true rfl) ⟨Nat.zero_le _, Nat.zero_le _⟩ dX2_isDirty_1 (fun H locs hP hD hS => ?_)
  refine lv_aload_n hx hb dX2_isDirty_4 rfl (lv_at hl 0 rfl) ?_
  refine va_get (D := D) (ci := 2) (v := .ref hu) (C := RX2) (T := TX2) (N := 5) hx hb hts hi_RX2 hown hK hP 0 rfl rfl 2 (by decide) hf_21 (fun _ h9 => h9) rfl dX2_isDirty_5 ?_
  refine va_get (D := D) (ci := 0) (v := .ref u3) (C := RX0) (T := TX0) (N := 11) hx hb hts hi_RX0 hown hK hP 3 rfl rfl 5 (by decide) hf_47 (fun _ h9 => h9) rfl dX2_isDirty_8 ?_
  refine lv_iload_n hx hb dX2_isDirty_11 rfl (lv_at hl 1 rfl) ?_
  refine mq_zld (k := q) u.2.2.2.2.2.1 hx hb hK hP 6 1 rfl rfl (by omega) (Nat.le_of_ble_eq_true rfl) dX2_isDirty_12 ?_
  exact CtI.zret hQ hx hb hr (narrow_bI _) hlk hK hP hD hS dX2_isDirty_13 rfl rfl
abbrev rmX2_dirty : Room := { frames := 1, cells := 0, slots := 0, locals := 22 }
set_option maxRecDepth 100000 in
set_option maxHeartbeats 4000000 in
theorem c_dirty (l : Launch) (D : va_G) (cyI cyZ cyJ : ClassId) (h b1 b2 hu u1 u2 u3 ht t1 t2 t3 hw l1 l2 : Nat) (wr hm : Nat → Int32) (u tr : CBu) (la : LAu)  : CtI l yX2_dirty wsX2_dirty rmX2_dirty D (T3 cyI cyZ cyJ) [.ref h] ((OBo cyI h b1 b2 hu ht hw wr hm) ++ ((CBc cyI cyZ hu u1 u2 u3 u) ++ ((CBc cyI cyZ ht t1 t2 t3 tr) ++ (LAc cyI cyZ hw l1 l2 la)))) (nI (cb_dirty u)) ((OBo cyI h b1 b2 hu ht hw wr hm) ++ ((CBc cyI cyZ hu u1 u2 u3 u) ++ ((CBc cyI cyZ ht t1 t2 t3 tr) ++ (LAc cyI cyZ hw l1 l2 la)))) := by
  refine CtI.of (cc := cX2_dirty) (maxL := 1) (ret := (some .int)) (lv0 := [(0, .ref h)]) (by decide) rfl (Nat.le_of_ble_eq_true rfl) rfl ?_
  intro p e s m below meth c A ls args Q hx hb hml hr hlk hts hown hK hP hA hD hS hl hQ
  have hown : s.vm.findClass RX2 = some m.cls := hown
  have hi_RX2 : ∀ w ∈ wsX20, w ∈ wsX2_dirty := by decide +kernel
  have hf_21 := hts (.fieldLink RX2 21 "OutcastBench" "actual" "LOutcastBench$CacheAndBench;") (by decide +kernel)
  refine lv_aload_n hx hb dX2_dirty_0 rfl (lv_at hl 0 rfl) ?_
  refine va_get (D := D) (ci := 2) (v := .ref hu) (C := RX2) (T := TX2) (N := 5) hx hb hts hi_RX2 hown hK hP 0 rfl rfl 2 (by decide) hf_21 (fun _ h9 => h9) rfl dX2_dirty_1 ?_
  refine CtI.callV (n := 0) (q0 := 0) (ci := 0) (wc := CBc cyI cyZ hu u1 u2 u3 u) (wr := (OBo cyI h b1 b2 hu ht hw wr hm) ++ ((CBc cyI cyZ ht t1 t2 t3 tr) ++ (LAc cyI cyZ hw l1 l2 la))) (w1 := CBc cyI cyZ hu u1 u2 u3 u) (ws' := (OBo cyI h b1 b2 hu ht hw wr hm) ++ ((CBc cyI cyZ hu u1 u2 u3 u) ++ ((CBc cyI cyZ ht t1 t2 t3 tr) ++ (LAc cyI cyZ hw l1 l2 la)))) (isC := [3, 4, 5, 6]) (isR := [0, 1, 2, 7, 8, 9, 10, 11, 12, 13]) (ps := [0, 1, 2, 10, 11, 12, 13, 3, 4, 5, 6, 7, 8, 9]) (As := []) (rest := []) (c_countDirtyU l D cyI cyZ cyJ hu u1 u2 u3 u ) ⟨hx, hb, hown, hts⟩ gX2_dirty_X0_countDirty rfl ⟨rfl, by decide, by decide, by decide +kernel⟩ ⟨Nat.le_of_ble_eq_true rfl, Nat.le_of_ble_eq_true rfl⟩ ⟨rfl, rfl⟩ hml hl.1 hK hP hD hS hA ⟨rfl, rfl, rfl, rfl, rfl, rfl, rfl⟩ rfl ⟨rfl, rfl⟩ rfl rfl (Nat.le_of_ble_eq_true rfl) ⟨Nat.zero_le _, Nat.zero_le _⟩ dX2_dirty_4 (fun H locs hP hD hS => ?_)
  exact CtI.ret hQ hx hb hr hlk hK hP hD hS dX2_dirty_7 rfl rfl
abbrev rmX2_atHome : Room := { frames := 1, cells := 0, slots := 0, locals := 21 }
set_option maxRecDepth 100000 in
set_option maxHeartbeats 4000000 in
theorem c_atHome (l : Launch) (D : va_G) (cyI cyZ cyJ : ClassId) (h b1 b2 hu u1 u2 u3 ht t1 t2 t3 hw l1 l2 : Nat) (wr hm : Nat → Int32) (u tr : CBu) (la : LAu) (a : Nat) (ha : a < 1024) : CtI l yX2_atHome wsX2_atHome rmX2_atHome D (T3 cyI cyZ cyJ) [.ref h, .int (nI a)] ((OBo cyI h b1 b2 hu ht hw wr hm) ++ ((CBc cyI cyZ hu u1 u2 u3 u) ++ ((CBc cyI cyZ ht t1 t2 t3 tr) ++ (LAc cyI cyZ hw l1 l2 la)))) (if cb_dt u (a / 4) = true then hm a else wr a) ((OBo cyI h b1 b2 hu ht hw wr hm) ++ ((CBc cyI cyZ hu u1 u2 u3 u) ++ ((CBc cyI cyZ ht t1 t2 t3 tr) ++ (LAc cyI cyZ hw l1 l2 la)))) := by
  refine CtI.of (cc := cX2_atHome) (maxL := 2) (ret := (some .int)) (lv0 := [(0, .ref h), (1, .int (nI a))]) (by decide) rfl (Nat.le_of_ble_eq_true rfl) rfl ?_
  intro p e s m below meth c A ls args Q hx hb hml hr hlk hts hown hK hP hA hD hS hl hQ
  have hown : s.vm.findClass RX2 = some m.cls := hown
  have hi_RX0 : ∀ w ∈ wsX00, w ∈ wsX2_atHome := by decide +kernel
  have hi_RX2 : ∀ w ∈ wsX20, w ∈ wsX2_atHome := by decide +kernel
  have hf_9 := hts (.fieldLink RX2 9 "OutcastBench" "written" "[I") (by decide +kernel)
  have hf_13 := hts (.fieldLink RX2 13 "OutcastBench" "home" "[I") (by decide +kernel)
  have hf_21 := hts (.fieldLink RX2 21 "OutcastBench" "actual" "LOutcastBench$CacheAndBench;") (by decide +kernel)
  have hf_47 := hts (.fieldLink RX2 47 "OutcastBench$CacheAndBench" "dirtyLines" "[Z") (by decide +kernel)
  refine lv_iload_n hx hb dX2_atHome_0 rfl (lv_at hl 1 rfl) ?_
  refine CtV.callS (n := 1) (wc := ([] : va_W)) (wr := (OBo cyI h b1 b2 hu ht hw wr hm) ++ ((CBc cyI cyZ hu u1 u2 u3 u) ++ ((CBc cyI cyZ ht t1 t2 t3 tr) ++ (LAc cyI cyZ hw l1 l2 la)))) (w1 := ([] : va_W)) (ws' := (OBo cyI h b1 b2 hu ht hw wr hm) ++ ((CBc cyI cyZ hu u1 u2 u3 u) ++ ((CBc cyI cyZ ht t1 t2 t3 tr) ++ (LAc cyI cyZ hw l1 l2 la)))) (isC := []) (isR := [0, 1, 2, 3, 4, 5, 6, 7, 8, 9, 10, 11, 12, 13]) (ps := [0, 1, 2, 3, 4, 5, 6, 7, 8, 9, 10, 11, 12, 13]) (As := [.int (nI a)]) (rest := []) (c_requireWord l D cyI cyZ cyJ a ha) ⟨hx, hb, hown, hts⟩ gX2_atHome_X2_requireWord rfl ⟨by decide, by decide, by decide +kernel⟩ ⟨Nat.le_of_ble_eq_true rfl, Nat.le_of_ble_eq_true rfl⟩ ⟨rfl, rfl⟩ hml hl.1 hK hP hD hS hA ⟨rfl, rfl, rfl, rfl, rfl, rfl, rfl⟩ rfl rfl (Nat.le_of_ble_eq_true rfl) ⟨Nat.zero_le _, Nat.zero_le _⟩ dX2_atHome_1 (fun H locs hP hD hS => ?_)
  refine lv_aload_n hx hb dX2_atHome_4 rfl (lv_at hl 0 rfl) ?_
  refine va_get (D := D) (ci := 2) (v := .ref hu) (C := RX2) (T := TX2) (N := 5) hx hb hts hi_RX2 hown hK hP 0 rfl rfl 2 (by decide) hf_21 (fun _ h9 => h9) rfl dX2_atHome_5 ?_
  refine va_get (D := D) (ci := 0) (v := .ref u3) (C := RX0) (T := TX0) (N := 11) hx hb hts hi_RX0 hown hK hP 3 rfl rfl 5 (by decide) hf_47 (fun _ h9 => h9) rfl dX2_atHome_8 ?_
  refine lv_iload_n hx hb dX2_atHome_11 rfl (lv_at hl 1 rfl) ?_
  refine CtI.callS (n := 1) (wc := ([] : va_W)) (wr := (OBo cyI h b1 b2 hu ht hw wr hm) ++ ((CBc cyI cyZ hu u1 u2 u3 u) ++ ((CBc cyI cyZ ht t1 t2 t3 tr) ++ (LAc cyI cyZ hw l1 l2 la)))) (w1 := ([] : va_W)) (ws' := (OBo cyI h b1 b2 hu ht hw wr hm) ++ ((CBc cyI cyZ hu u1 u2 u3 u) ++ ((CBc cyI cyZ ht t1 t2 t3 tr) ++ (LAc cyI cyZ hw l1 l2 la)))) (isC := []) (isR := [0, 1, 2, 3, 4, 5, 6, 7, 8, 9, 10, 11, 12, 13]) (ps := [0, 1, 2, 3, 4, 5, 6, 7, 8, 9, 10, 11, 12, 13]) (As := [.int (nI a)]) (rest := [.ref u3]) (c_lineOf l D cyI cyZ cyJ a (by omega)) ⟨hx, hb, hown, hts⟩ gX2_atHome_X2_lineOf rfl ⟨by decide, by decide, by decide +kernel⟩ ⟨Nat.le_of_ble_eq_true rfl, Nat.le_of_ble_eq_true rfl⟩ ⟨rfl, rfl⟩ hml hl.1 hK hP hD hS hA ⟨rfl, rfl, rfl, rfl, rfl, rfl, rfl⟩ rfl rfl (Nat.le_of_ble_eq_true rfl) ⟨Nat.zero_le _, Nat.zero_le _⟩ dX2_atHome_12 (fun H locs hP hD hS => ?_)
  refine mq_zld (k := (a / 4)) u.2.2.2.2.2.1 hx hb hK hP 6 1 rfl rfl (by omega) (Nat.le_of_ble_eq_true rfl) dX2_atHome_15 ?_
  refine mq_bz (b := (u.2.2.2.2.2.1 (a / 4))) (tgt := 28) hx hb dX2_atHome_16 (by decide) (fun c1 => ?_) (fun c1 => ?_)
  · refine lv_aload_n hx hb dX2_atHome_28 rfl (lv_at hl 0 rfl) ?_
    refine va_get (D := D) (ci := 2) (v := .ref b1) (C := RX2) (T := TX2) (N := 5) hx hb hts hi_RX2 hown hK hP 0 rfl rfl 0 (by decide) hf_9 (fun _ h9 => h9) rfl dX2_atHome_29 ?_
    refine lv_iload_n hx hb dX2_atHome_32 rfl (lv_at hl 1 rfl) ?_
    refine mq_ldR (k := a) wr hx hb hK hP 1 0 rfl rfl (by omega) (Nat.le_of_ble_eq_true rfl) dX2_atHome_33 ?_
    exact CtI.ret hQ hx hb hr hlk hK hP hD hS dX2_atHome_34 (by rw [if_neg (by rw [show cb_dt u (a / 4) = _ from c1]; exact Bool.false_ne_true)]) rfl
  · refine lv_aload_n hx hb dX2_atHome_19 rfl (lv_at hl 0 rfl) ?_
    refine va_get (D := D) (ci := 2) (v := .ref b2) (C := RX2) (T := TX2) (N := 5) hx hb hts hi_RX2 hown hK hP 0 rfl rfl 1 (by decide) hf_13 (fun _ h9 => h9) rfl dX2_atHome_20 ?_
    refine lv_iload_n hx hb dX2_atHome_23 rfl (lv_at hl 1 rfl) ?_
    refine mq_ldR (k := a) hm hx hb hK hP 2 0 rfl rfl (by omega) (Nat.le_of_ble_eq_true rfl) dX2_atHome_24 ?_
    refine lv_goto (tgt := 34) hx hb dX2_atHome_25 (by decide) ?_
    exact CtI.ret hQ hx hb hr hlk hK hP hD hS dX2_atHome_34 (by rw [if_pos (show cb_dt u (a / 4) = true from c1)]) rfl
abbrev rmX2_peek : Room := { frames := 1, cells := 0, slots := 0, locals := 21 }
set_option maxRecDepth 100000 in
set_option maxHeartbeats 4000000 in
theorem c_peek (l : Launch) (D : va_G) (cyI cyZ cyJ : ClassId) (h b1 b2 hu u1 u2 u3 ht t1 t2 t3 hw l1 l2 : Nat) (wr hm : Nat → Int32) (u tr : CBu) (la : LAu) (a : Nat) (ha : a < 1024) : CtI l yX2_peek wsX2_peek rmX2_peek D (T3 cyI cyZ cyJ) [.ref h, .int (nI a)] ((OBo cyI h b1 b2 hu ht hw wr hm) ++ ((CBc cyI cyZ hu u1 u2 u3 u) ++ ((CBc cyI cyZ ht t1 t2 t3 tr) ++ (LAc cyI cyZ hw l1 l2 la)))) (wr a) ((OBo cyI h b1 b2 hu ht hw wr hm) ++ ((CBc cyI cyZ hu u1 u2 u3 u) ++ ((CBc cyI cyZ ht t1 t2 t3 tr) ++ (LAc cyI cyZ hw l1 l2 la)))) := by
  refine CtI.of (cc := cX2_peek) (maxL := 2) (ret := (some .int)) (lv0 := [(0, .ref h), (1, .int (nI a))]) (by decide) rfl (Nat.le_of_ble_eq_true rfl) rfl ?_
  intro p e s m below meth c A ls args Q hx hb hml hr hlk hts hown hK hP hA hD hS hl hQ
  have hown : s.vm.findClass RX2 = some m.cls := hown
  have hi_RX2 : ∀ w ∈ wsX20, w ∈ wsX2_peek := by decide +kernel
  have hf_9 := hts (.fieldLink RX2 9 "OutcastBench" "written" "[I") (by decide +kernel)
  refine lv_iload_n hx hb dX2_peek_0 rfl (lv_at hl 1 rfl) ?_
  refine CtV.callS (n := 1) (wc := ([] : va_W)) (wr := (OBo cyI h b1 b2 hu ht hw wr hm) ++ ((CBc cyI cyZ hu u1 u2 u3 u) ++ ((CBc cyI cyZ ht t1 t2 t3 tr) ++ (LAc cyI cyZ hw l1 l2 la)))) (w1 := ([] : va_W)) (ws' := (OBo cyI h b1 b2 hu ht hw wr hm) ++ ((CBc cyI cyZ hu u1 u2 u3 u) ++ ((CBc cyI cyZ ht t1 t2 t3 tr) ++ (LAc cyI cyZ hw l1 l2 la)))) (isC := []) (isR := [0, 1, 2, 3, 4, 5, 6, 7, 8, 9, 10, 11, 12, 13]) (ps := [0, 1, 2, 3, 4, 5, 6, 7, 8, 9, 10, 11, 12, 13]) (As := [.int (nI a)]) (rest := []) (c_requireWord l D cyI cyZ cyJ a ha) ⟨hx, hb, hown, hts⟩ gX2_peek_X2_requireWord rfl ⟨by decide, by decide, by decide +kernel⟩ ⟨Nat.le_of_ble_eq_true rfl, Nat.le_of_ble_eq_true rfl⟩ ⟨rfl, rfl⟩ hml hl.1 hK hP hD hS hA ⟨rfl, rfl, rfl, rfl, rfl, rfl, rfl⟩ rfl rfl (Nat.le_of_ble_eq_true rfl) ⟨Nat.zero_le _, Nat.zero_le _⟩ dX2_peek_1 (fun H locs hP hD hS => ?_)
  refine lv_aload_n hx hb dX2_peek_4 rfl (lv_at hl 0 rfl) ?_
  refine va_get (D := D) (ci := 2) (v := .ref b1) (C := RX2) (T := TX2) (N := 5) hx hb hts hi_RX2 hown hK hP 0 rfl rfl 0 (by decide) hf_9 (fun _ h9 => h9) rfl dX2_peek_5 ?_
  refine lv_iload_n hx hb dX2_peek_8 rfl (lv_at hl 1 rfl) ?_
  refine mq_ldR (k := a) wr hx hb hK hP 1 0 rfl rfl (by omega) (Nat.le_of_ble_eq_true rfl) dX2_peek_9 ?_
  exact CtI.ret hQ hx hb hr hlk hK hP hD hS dX2_peek_10 rfl rfl

abbrev rmX3_isWord : Room := { frames := 0, cells := 0, slots := 0, locals := 0 }
set_option maxRecDepth 100000 in
set_option maxHeartbeats 4000000 in
theorem m_isWord (l : Launch) (D : va_G) (cyI cyZ cyJ : ClassId) (a : Nat) (ha : a < 1024) : CtI l yX3_isWord wsX3_isWord rmX3_isWord D (T3 cyI cyZ cyJ) [.int (nI a)] (([] : va_W)) (bI true) (([] : va_W)) := by
  refine CtI.of (cc := cX3_isWord) (maxL := 1) (ret := (some .boolean)) (lv0 := [(0, .int (nI a))]) (by decide) rfl (Nat.le_of_ble_eq_true rfl) rfl ?_
  intro p e s m below meth c A ls args Q hx hb hml hr hlk hts hown hK hP hA hD hS hl hQ
  have hown : s.vm.findClass RX3 = some m.cls := hown
  refine lv_iload_n hx hb dX3_isWord_0 rfl (lv_at hl 0 rfl) ?_
  refine lv_if_lt (x := nI a) (tgt := 15) hx hb dX3_isWord_1 (by decide) (fun c1 => ?_) (fun c1 => ?_)
  · exact absurd c1 (nI_pos (by omega))
  · refine lv_iload_n hx hb dX3_isWord_4 rfl (lv_at hl 0 rfl) ?_
    refine lv_sipush (v := nI 1024) hx hb dX3_isWord_5 (by decide) ?_
    refine mq_ge (x := a) (y := 1024) (tgt := 15) (by omega) (by omega) hx hb dX3_isWord_8 (by decide) (fun c2 => ?_) (fun c2 => ?_)
    · exact absurd ha (by omega)
    · refine lv_iconst (v := nI 1) hx hb dX3_isWord_11 (by decide) ?_
      refine lv_goto (tgt := 16) hx hb dX3_isWord_12 (by decide) ?_
      exact CtI.zret hQ hx hb hr narrow_b1 hlk hK hP hD hS dX3_isWord_16 rfl rfl
set_option maxRecDepth 100000 in
set_option maxHeartbeats 4000000 in
theorem m_isWordN (l : Launch) (D : va_G) (cyI cyZ cyJ : ClassId) (x : Int32) (hbad : x < 0 ∨ nI 1024 ≤ x) : CtI l yX3_isWord wsX3_isWord rmX3_isWord D (T3 cyI cyZ cyJ) [.int x] (([] : va_W)) (bI false) (([] : va_W)) := by
  refine CtI.of (cc := cX3_isWord) (maxL := 1) (ret := (some .boolean)) (lv0 := [(0, .int x)]) (by decide) rfl (Nat.le_of_ble_eq_true rfl) rfl ?_
  intro p e s m below meth c A ls args Q hx hb hml hr hlk hts hown hK hP hA hD hS hl hQ
  have hown : s.vm.findClass RX3 = some m.cls := hown
  refine lv_iload_n hx hb dX3_isWord_0 rfl (lv_at hl 0 rfl) ?_
  refine lv_if_lt (x := x) (tgt := 15) hx hb dX3_isWord_1 (by decide) (fun c1 => ?_) (fun c1 => ?_)
  · refine lv_iconst (v := nI 0) hx hb dX3_isWord_15 (by decide) ?_
    exact CtI.zret hQ hx hb hr narrow_b0 hlk hK hP hD hS dX3_isWord_16 rfl rfl
  · refine lv_iload_n hx hb dX3_isWord_4 rfl (lv_at hl 0 rfl) ?_
    refine lv_sipush (v := nI 1024) hx hb dX3_isWord_5 (by decide) ?_
    refine lv_icmp_ge (x := x) (y := 1024) (tgt := 15) hx hb dX3_isWord_8 (by decide) (fun c2 => ?_) (fun c2 => ?_)
    · refine lv_iconst (v := nI 0) hx hb dX3_isWord_15 (by decide) ?_
      exact CtI.zret hQ hx hb hr narrow_b0 hlk hK hP hD hS dX3_isWord_16 rfl rfl
    · exact absurd hbad (fun hh => hh.elim c1 c2)
abbrev rmX3_isSize : Room := { frames := 0, cells := 0, slots := 0, locals := 0 }
set_option maxRecDepth 100000 in
set_option maxHeartbeats 4000000 in
theorem m_isSize (l : Launch) (D : va_G) (cyI cyZ cyJ : ClassId) (s' p' : Nat) (hs : s' = 1 ∨ s' = 2 ∨ s' = 4 ∨ s' = 8 ∨ s' = 16) (hp : p' ≤ 8) : CtI l yX3_isSize wsX3_isSize rmX3_isSize D (T3 cyI cyZ cyJ) [.int (nI s'), .int (nI p')] (([] : va_W)) (bI true) (([] : va_W)) := by
  refine CtI.of (cc := cX3_isSize) (maxL := 2) (ret := (some .boolean)) (lv0 := [(0, .int (nI s')), (1, .int (nI p'))]) (by decide) rfl (Nat.le_of_ble_eq_true rfl) rfl ?_
  intro p e s m below meth c A ls args Q hx hb hml hr hlk hts hown hK hP hA hD hS hl hQ
  have hown : s.vm.findClass RX3 = some m.cls := hown
  rcases hs with rfl | rfl | rfl | rfl | rfl
  · refine lv_iload_n hx hb dX3_isSize_0 rfl (lv_at hl 0 rfl) ?_
    refine lv_iconst (v := nI 1) hx hb dX3_isSize_1 (by decide) ?_
    refine mq_eq (x := 1) (y := 1) (tgt := 27) (by omega) (by omega) hx hb dX3_isSize_2 (by decide) (fun c1 => ?_) (fun c1 => ?_)
    · refine lv_iload_n hx hb dX3_isSize_27 rfl (lv_at hl 1 rfl) ?_
      refine lv_if_lt (x := nI p') (tgt := 41) hx hb dX3_isSize_28 (by decide) (fun c3 => ?_) (fun c3 => ?_)
      · exact absurd c3 (nI_pos (by omega))
      · refine lv_iload_n hx hb dX3_isSize_31 rfl (lv_at hl 1 rfl) ?_
        refine lv_bipush (v := nI 8) hx hb dX3_isSize_32 (by decide) ?_
        refine mq_gt (x := p') (y := 8) (tgt := 41) (by omega) (by omega) hx hb dX3_isSize_34 (by decide) (fun c2 => ?_) (fun c2 => ?_)
        · exact absurd hp (by omega)
        · refine lv_iconst (v := nI 1) hx hb dX3_isSize_37 (by decide) ?_
          refine lv_goto (tgt := 42) hx hb dX3_isSize_38 (by decide) ?_
          exact CtI.zret hQ hx hb hr narrow_b1 hlk hK hP hD hS dX3_isSize_42 rfl rfl
    · exact absurd c1 (by decide)
  · refine lv_iload_n hx hb dX3_isSize_0 rfl (lv_at hl 0 rfl) ?_
    refine lv_iconst (v := nI 1) hx hb dX3_isSize_1 (by decide) ?_
    refine mq_eq (x := 2) (y := 1) (tgt := 27) (by omega) (by omega) hx hb dX3_isSize_2 (by decide) (fun c2 => ?_) (fun c2 => ?_)
    · exact absurd c2 (by decide)
    · refine lv_iload_n hx hb dX3_isSize_5 rfl (lv_at hl 0 rfl) ?_
      refine lv_iconst (v := nI 2) hx hb dX3_isSize_6 (by decide) ?_
      refine mq_eq (x := 2) (y := 2) (tgt := 27) (by omega) (by omega) hx hb dX3_isSize_7 (by decide) (fun c3 => ?_) (fun c3 => ?_)
      · refine lv_iload_n hx hb dX3_isSize_27 rfl (lv_at hl 1 rfl) ?_
        refine lv_if_lt (x := nI p') (tgt := 41) hx hb dX3_isSize_28 (by decide) (fun c3 => ?_) (fun c3 => ?_)
        · exact absurd c3 (nI_pos (by omega))
        · refine lv_iload_n hx hb dX3_isSize_31 rfl (lv_at hl 1 rfl) ?_
          refine lv_bipush (v := nI 8) hx hb dX3_isSize_32 (by decide) ?_
          refine mq_gt (x := p') (y := 8) (tgt := 41) (by omega) (by omega) hx hb dX3_isSize_34 (by decide) (fun c2 => ?_) (fun c2 => ?_)
          · exact absurd hp (by omega)
          · refine lv_iconst (v := nI 1) hx hb dX3_isSize_37 (by decide) ?_
            refine lv_goto (tgt := 42) hx hb dX3_isSize_38 (by decide) ?_
            exact CtI.zret hQ hx hb hr narrow_b1 hlk hK hP hD hS dX3_isSize_42 rfl rfl
      · exact absurd c3 (by decide)
  · refine lv_iload_n hx hb dX3_isSize_0 rfl (lv_at hl 0 rfl) ?_
    refine lv_iconst (v := nI 1) hx hb dX3_isSize_1 (by decide) ?_
    refine mq_eq (x := 4) (y := 1) (tgt := 27) (by omega) (by omega) hx hb dX3_isSize_2 (by decide) (fun c4 => ?_) (fun c4 => ?_)
    · exact absurd c4 (by decide)
    · refine lv_iload_n hx hb dX3_isSize_5 rfl (lv_at hl 0 rfl) ?_
      refine lv_iconst (v := nI 2) hx hb dX3_isSize_6 (by decide) ?_
      refine mq_eq (x := 4) (y := 2) (tgt := 27) (by omega) (by omega) hx hb dX3_isSize_7 (by decide) (fun c5 => ?_) (fun c5 => ?_)
      · exact absurd c5 (by decide)
      · refine lv_iload_n hx hb dX3_isSize_10 rfl (lv_at hl 0 rfl) ?_
        refine lv_iconst (v := nI 4) hx hb dX3_isSize_11 (by decide) ?_
        refine mq_eq (x := 4) (y := 4) (tgt := 27) (by omega) (by omega) hx hb dX3_isSize_12 (by decide) (fun c6 => ?_) (fun c6 => ?_)
        · refine lv_iload_n hx hb dX3_isSize_27 rfl (lv_at hl 1 rfl) ?_
          refine lv_if_lt (x := nI p') (tgt := 41) hx hb dX3_isSize_28 (by decide) (fun c3 => ?_) (fun c3 => ?_)
          · exact absurd c3 (nI_pos (by omega))
          · refine lv_iload_n hx hb dX3_isSize_31 rfl (lv_at hl 1 rfl) ?_
            refine lv_bipush (v := nI 8) hx hb dX3_isSize_32 (by decide) ?_
            refine mq_gt (x := p') (y := 8) (tgt := 41) (by omega) (by omega) hx hb dX3_isSize_34 (by decide) (fun c2 => ?_) (fun c2 => ?_)
            · exact absurd hp (by omega)
            · refine lv_iconst (v := nI 1) hx hb dX3_isSize_37 (by decide) ?_
              refine lv_goto (tgt := 42) hx hb dX3_isSize_38 (by decide) ?_
              exact CtI.zret hQ hx hb hr narrow_b1 hlk hK hP hD hS dX3_isSize_42 rfl rfl
        · exact absurd c6 (by decide)
  · refine lv_iload_n hx hb dX3_isSize_0 rfl (lv_at hl 0 rfl) ?_
    refine lv_iconst (v := nI 1) hx hb dX3_isSize_1 (by decide) ?_
    refine mq_eq (x := 8) (y := 1) (tgt := 27) (by omega) (by omega) hx hb dX3_isSize_2 (by decide) (fun c7 => ?_) (fun c7 => ?_)
    · exact absurd c7 (by decide)
    · refine lv_iload_n hx hb dX3_isSize_5 rfl (lv_at hl 0 rfl) ?_
      refine lv_iconst (v := nI 2) hx hb dX3_isSize_6 (by decide) ?_
      refine mq_eq (x := 8) (y := 2) (tgt := 27) (by omega) (by omega) hx hb dX3_isSize_7 (by decide) (fun c8 => ?_) (fun c8 => ?_)
      · exact absurd c8 (by decide)
      · refine lv_iload_n hx hb dX3_isSize_10 rfl (lv_at hl 0 rfl) ?_
        refine lv_iconst (v := nI 4) hx hb dX3_isSize_11 (by decide) ?_
        refine mq_eq (x := 8) (y := 4) (tgt := 27) (by omega) (by omega) hx hb dX3_isSize_12 (by decide) (fun c9 => ?_) (fun c9 => ?_)
        · exact absurd c9 (by decide)
        · refine lv_iload_n hx hb dX3_isSize_15 rfl (lv_at hl 0 rfl) ?_
          refine lv_bipush (v := nI 8) hx hb dX3_isSize_16 (by decide) ?_
          refine mq_eq (x := 8) (y := 8) (tgt := 27) (by omega) (by omega) hx hb dX3_isSize_18 (by decide) (fun c10 => ?_) (fun c10 => ?_)
          · refine lv_iload_n hx hb dX3_isSize_27 rfl (lv_at hl 1 rfl) ?_
            refine lv_if_lt (x := nI p') (tgt := 41) hx hb dX3_isSize_28 (by decide) (fun c3 => ?_) (fun c3 => ?_)
            · exact absurd c3 (nI_pos (by omega))
            · refine lv_iload_n hx hb dX3_isSize_31 rfl (lv_at hl 1 rfl) ?_
              refine lv_bipush (v := nI 8) hx hb dX3_isSize_32 (by decide) ?_
              refine mq_gt (x := p') (y := 8) (tgt := 41) (by omega) (by omega) hx hb dX3_isSize_34 (by decide) (fun c2 => ?_) (fun c2 => ?_)
              · exact absurd hp (by omega)
              · refine lv_iconst (v := nI 1) hx hb dX3_isSize_37 (by decide) ?_
                refine lv_goto (tgt := 42) hx hb dX3_isSize_38 (by decide) ?_
                exact CtI.zret hQ hx hb hr narrow_b1 hlk hK hP hD hS dX3_isSize_42 rfl rfl
          · exact absurd c10 (by decide)
  · refine lv_iload_n hx hb dX3_isSize_0 rfl (lv_at hl 0 rfl) ?_
    refine lv_iconst (v := nI 1) hx hb dX3_isSize_1 (by decide) ?_
    refine mq_eq (x := 16) (y := 1) (tgt := 27) (by omega) (by omega) hx hb dX3_isSize_2 (by decide) (fun c11 => ?_) (fun c11 => ?_)
    · exact absurd c11 (by decide)
    · refine lv_iload_n hx hb dX3_isSize_5 rfl (lv_at hl 0 rfl) ?_
      refine lv_iconst (v := nI 2) hx hb dX3_isSize_6 (by decide) ?_
      refine mq_eq (x := 16) (y := 2) (tgt := 27) (by omega) (by omega) hx hb dX3_isSize_7 (by decide) (fun c12 => ?_) (fun c12 => ?_)
      · exact absurd c12 (by decide)
      · refine lv_iload_n hx hb dX3_isSize_10 rfl (lv_at hl 0 rfl) ?_
        refine lv_iconst (v := nI 4) hx hb dX3_isSize_11 (by decide) ?_
        refine mq_eq (x := 16) (y := 4) (tgt := 27) (by omega) (by omega) hx hb dX3_isSize_12 (by decide) (fun c13 => ?_) (fun c13 => ?_)
        · exact absurd c13 (by decide)
        · refine lv_iload_n hx hb dX3_isSize_15 rfl (lv_at hl 0 rfl) ?_
          refine lv_bipush (v := nI 8) hx hb dX3_isSize_16 (by decide) ?_
          refine mq_eq (x := 16) (y := 8) (tgt := 27) (by omega) (by omega) hx hb dX3_isSize_18 (by decide) (fun c14 => ?_) (fun c14 => ?_)
          · exact absurd c14 (by decide)
          · refine lv_iload_n hx hb dX3_isSize_21 rfl (lv_at hl 0 rfl) ?_
            refine lv_bipush (v := nI 16) hx hb dX3_isSize_22 (by decide) ?_
            refine mq_ne (x := 16) (y := 16) (tgt := 41) (by omega) (by omega) hx hb dX3_isSize_24 (by decide) (fun c15 => ?_) (fun c15 => ?_)
            · exact absurd c15 (by decide)
            · refine lv_iload_n hx hb dX3_isSize_27 rfl (lv_at hl 1 rfl) ?_
              refine lv_if_lt (x := nI p') (tgt := 41) hx hb dX3_isSize_28 (by decide) (fun c3 => ?_) (fun c3 => ?_)
              · exact absurd c3 (nI_pos (by omega))
              · refine lv_iload_n hx hb dX3_isSize_31 rfl (lv_at hl 1 rfl) ?_
                refine lv_bipush (v := nI 8) hx hb dX3_isSize_32 (by decide) ?_
                refine mq_gt (x := p') (y := 8) (tgt := 41) (by omega) (by omega) hx hb dX3_isSize_34 (by decide) (fun c2 => ?_) (fun c2 => ?_)
                · exact absurd hp (by omega)
                · refine lv_iconst (v := nI 1) hx hb dX3_isSize_37 (by decide) ?_
                  refine lv_goto (tgt := 42) hx hb dX3_isSize_38 (by decide) ?_
                  exact CtI.zret hQ hx hb hr narrow_b1 hlk hK hP hD hS dX3_isSize_42 rfl rfl
set_option maxRecDepth 100000 in
set_option maxHeartbeats 4000000 in
theorem m_isSizeN (l : Launch) (D : va_G) (cyI cyZ cyJ : ClassId) (x y : Int32) (hbad : ¬ okS x y) : CtI l yX3_isSize wsX3_isSize rmX3_isSize D (T3 cyI cyZ cyJ) [.int x, .int y] (([] : va_W)) (bI false) (([] : va_W)) := by
  refine CtI.of (cc := cX3_isSize) (maxL := 2) (ret := (some .boolean)) (lv0 := [(0, .int x), (1, .int y)]) (by decide) rfl (Nat.le_of_ble_eq_true rfl) rfl ?_
  intro p e s m below meth c A ls args Q hx hb hml hr hlk hts hown hK hP hA hD hS hl hQ
  have hown : s.vm.findClass RX3 = some m.cls := hown
  refine lv_iload_n hx hb dX3_isSize_0 rfl (lv_at hl 0 rfl) ?_
  refine lv_iconst (v := nI 1) hx hb dX3_isSize_1 (by decide) ?_
  refine lv_icmp_eq (x := x) (y := 1) (tgt := 27) hx hb dX3_isSize_2 (by decide) (fun c0 => ?_) (fun c0 => ?_)
  · refine lv_iload_n hx hb dX3_isSize_27 rfl (lv_at hl 1 rfl) ?_
    refine lv_if_lt (x := y) (tgt := 41) hx hb dX3_isSize_28 (by decide) (fun c8 => ?_) (fun c8 => ?_)
    · refine lv_iconst (v := nI 0) hx hb dX3_isSize_41 (by decide) ?_
      exact CtI.zret hQ hx hb hr narrow_b0 hlk hK hP hD hS dX3_isSize_42 rfl rfl
    · refine lv_iload_n hx hb dX3_isSize_31 rfl (lv_at hl 1 rfl) ?_
      refine lv_bipush (v := nI 8) hx hb dX3_isSize_32 (by decide) ?_
      refine lv_icmp_gt (x := y) (y := 8) (tgt := 41) hx hb dX3_isSize_34 (by decide) (fun c9 => ?_) (fun c9 => ?_)
      · refine lv_iconst (v := nI 0) hx hb dX3_isSize_41 (by decide) ?_
        exact CtI.zret hQ hx hb hr narrow_b0 hlk hK hP hD hS dX3_isSize_42 rfl rfl
      · exact absurd (show okS x y from ⟨Or.inl c0, Int32.not_lt.mp c8, Int32.not_lt.mp c9⟩) hbad
  · refine lv_iload_n hx hb dX3_isSize_5 rfl (lv_at hl 0 rfl) ?_
    refine lv_iconst (v := nI 2) hx hb dX3_isSize_6 (by decide) ?_
    refine lv_icmp_eq (x := x) (y := 2) (tgt := 27) hx hb dX3_isSize_7 (by decide) (fun c1 => ?_) (fun c1 => ?_)
    · refine lv_iload_n hx hb dX3_isSize_27 rfl (lv_at hl 1 rfl) ?_
      refine lv_if_lt (x := y) (tgt := 41) hx hb dX3_isSize_28 (by decide) (fun c8 => ?_) (fun c8 => ?_)
      · refine lv_iconst (v := nI 0) hx hb dX3_isSize_41 (by decide) ?_
        exact CtI.zret hQ hx hb hr narrow_b0 hlk hK hP hD hS dX3_isSize_42 rfl rfl
      · refine lv_iload_n hx hb dX3_isSize_31 rfl (lv_at hl 1 rfl) ?_
        refine lv_bipush (v := nI 8) hx hb dX3_isSize_32 (by decide) ?_
        refine lv_icmp_gt (x := y) (y := 8) (tgt := 41) hx hb dX3_isSize_34 (by decide) (fun c9 => ?_) (fun c9 => ?_)
        · refine lv_iconst (v := nI 0) hx hb dX3_isSize_41 (by decide) ?_
          exact CtI.zret hQ hx hb hr narrow_b0 hlk hK hP hD hS dX3_isSize_42 rfl rfl
        · exact absurd (show okS x y from ⟨Or.inr (Or.inl c1), Int32.not_lt.mp c8, Int32.not_lt.mp c9⟩) hbad
    · refine lv_iload_n hx hb dX3_isSize_10 rfl (lv_at hl 0 rfl) ?_
      refine lv_iconst (v := nI 4) hx hb dX3_isSize_11 (by decide) ?_
      refine lv_icmp_eq (x := x) (y := 4) (tgt := 27) hx hb dX3_isSize_12 (by decide) (fun c2 => ?_) (fun c2 => ?_)
      · refine lv_iload_n hx hb dX3_isSize_27 rfl (lv_at hl 1 rfl) ?_
        refine lv_if_lt (x := y) (tgt := 41) hx hb dX3_isSize_28 (by decide) (fun c8 => ?_) (fun c8 => ?_)
        · refine lv_iconst (v := nI 0) hx hb dX3_isSize_41 (by decide) ?_
          exact CtI.zret hQ hx hb hr narrow_b0 hlk hK hP hD hS dX3_isSize_42 rfl rfl
        · refine lv_iload_n hx hb dX3_isSize_31 rfl (lv_at hl 1 rfl) ?_
          refine lv_bipush (v := nI 8) hx hb dX3_isSize_32 (by decide) ?_
          refine lv_icmp_gt (x := y) (y := 8) (tgt := 41) hx hb dX3_isSize_34 (by decide) (fun c9 => ?_) (fun c9 => ?_)
          · refine lv_iconst (v := nI 0) hx hb dX3_isSize_41 (by decide) ?_
            exact CtI.zret hQ hx hb hr narrow_b0 hlk hK hP hD hS dX3_isSize_42 rfl rfl
          · exact absurd (show okS x y from ⟨Or.inr (Or.inr (Or.inl c2)), Int32.not_lt.mp c8, Int32.not_lt.mp c9⟩) hbad
      · refine lv_iload_n hx hb dX3_isSize_15 rfl (lv_at hl 0 rfl) ?_
        refine lv_bipush (v := nI 8) hx hb dX3_isSize_16 (by decide) ?_
        refine lv_icmp_eq (x := x) (y := 8) (tgt := 27) hx hb dX3_isSize_18 (by decide) (fun c3 => ?_) (fun c3 => ?_)
        · refine lv_iload_n hx hb dX3_isSize_27 rfl (lv_at hl 1 rfl) ?_
          refine lv_if_lt (x := y) (tgt := 41) hx hb dX3_isSize_28 (by decide) (fun c8 => ?_) (fun c8 => ?_)
          · refine lv_iconst (v := nI 0) hx hb dX3_isSize_41 (by decide) ?_
            exact CtI.zret hQ hx hb hr narrow_b0 hlk hK hP hD hS dX3_isSize_42 rfl rfl
          · refine lv_iload_n hx hb dX3_isSize_31 rfl (lv_at hl 1 rfl) ?_
            refine lv_bipush (v := nI 8) hx hb dX3_isSize_32 (by decide) ?_
            refine lv_icmp_gt (x := y) (y := 8) (tgt := 41) hx hb dX3_isSize_34 (by decide) (fun c9 => ?_) (fun c9 => ?_)
            · refine lv_iconst (v := nI 0) hx hb dX3_isSize_41 (by decide) ?_
              exact CtI.zret hQ hx hb hr narrow_b0 hlk hK hP hD hS dX3_isSize_42 rfl rfl
            · exact absurd (show okS x y from ⟨Or.inr (Or.inr (Or.inr (Or.inl c3))), Int32.not_lt.mp c8, Int32.not_lt.mp c9⟩) hbad
        · refine lv_iload_n hx hb dX3_isSize_21 rfl (lv_at hl 0 rfl) ?_
          refine lv_bipush (v := nI 16) hx hb dX3_isSize_22 (by decide) ?_
          refine lv_icmp_ne (x := x) (y := 16) (tgt := 41) hx hb dX3_isSize_24 (by decide) (fun c4 => ?_) (fun c4 => ?_)
          · refine lv_iconst (v := nI 0) hx hb dX3_isSize_41 (by decide) ?_
            exact CtI.zret hQ hx hb hr narrow_b0 hlk hK hP hD hS dX3_isSize_42 rfl rfl
          · have c4 : x = 16 := by first | exact c4 | (by_cases hh : x = 16; exact hh; exact absurd hh c4)
            refine lv_iload_n hx hb dX3_isSize_27 rfl (lv_at hl 1 rfl) ?_
            refine lv_if_lt (x := y) (tgt := 41) hx hb dX3_isSize_28 (by decide) (fun c8 => ?_) (fun c8 => ?_)
            · refine lv_iconst (v := nI 0) hx hb dX3_isSize_41 (by decide) ?_
              exact CtI.zret hQ hx hb hr narrow_b0 hlk hK hP hD hS dX3_isSize_42 rfl rfl
            · refine lv_iload_n hx hb dX3_isSize_31 rfl (lv_at hl 1 rfl) ?_
              refine lv_bipush (v := nI 8) hx hb dX3_isSize_32 (by decide) ?_
              refine lv_icmp_gt (x := y) (y := 8) (tgt := 41) hx hb dX3_isSize_34 (by decide) (fun c9 => ?_) (fun c9 => ?_)
              · refine lv_iconst (v := nI 0) hx hb dX3_isSize_41 (by decide) ?_
                exact CtI.zret hQ hx hb hr narrow_b0 hlk hK hP hD hS dX3_isSize_42 rfl rfl
              · exact absurd (show okS x y from ⟨Or.inr (Or.inr (Or.inr (Or.inr c4))), Int32.not_lt.mp c8, Int32.not_lt.mp c9⟩) hbad
abbrev rmX3_isSet : Room := { frames := 0, cells := 0, slots := 0, locals := 0 }
set_option maxRecDepth 100000 in
set_option maxHeartbeats 4000000 in
theorem m_isSet (l : Launch) (D : va_G) (cyI cyZ cyJ : ClassId) (h a1 a2 a3 a4 a5 a6 a7 a8 a9 a10 : Nat) (mw : Nat → Int32) (mh : Nat → Int32) (ms : Nat → Nat) (mp : Nat → Nat) (ml : Nat → Option Nat) (mb : Nat → Nat) (mm : Nat → Nat) (md : Nat → Bool) (mc : Nat → Int32) (mhi : Int32) (msw : Int32) (mmi : Int32) (mhc : Int32) (ma : Nat → Nat) (mq : Nat) (mt : Nat) (k : Nat) (hms : ms 0 ≤ 16) (hk : k < ms 0) : CtI l yX3_isSet wsX3_isSet rmX3_isSet D (T3 cyI cyZ cyJ) [.ref h, .int (nI k)] (MDc cyI h a1 a2 a3 a4 a5 a6 a7 a8 a9 a10 (mw, mh, ms, mp, ml, mb, mm, md, mc, mhi, msw, mmi, mhc, ma, mq, mt)) (bI true) (MDc cyI h a1 a2 a3 a4 a5 a6 a7 a8 a9 a10 (mw, mh, ms, mp, ml, mb, mm, md, mc, mhi, msw, mmi, mhc, ma, mq, mt)) := by
  refine CtI.of (cc := cX3_isSet) (maxL := 2) (ret := (some .boolean)) (lv0 := [(0, .ref h), (1, .int (nI k))]) (by decide) rfl (Nat.le_of_ble_eq_true rfl) rfl ?_
  intro p e s m below meth c A ls args Q hx hb hml hr hlk hts hown hK hP hA hD hS hl hQ
  have hown : s.vm.findClass RX3 = some m.cls := hown
  have hi_RX3 : ∀ w ∈ wsX30, w ∈ wsX3_isSet := by decide +kernel
  have hf_16 := hts (.fieldLink RX3 16 "OutcastBenchModel" "sets" "[I") (by decide +kernel)
  refine lv_iload_n hx hb dX3_isSet_0 rfl (lv_at hl 1 rfl) ?_
  refine lv_if_lt (x := nI k) (tgt := 18) hx hb dX3_isSet_1 (by decide) (fun c1 => ?_) (fun c1 => ?_)
  · exact absurd c1 (nI_pos (by omega))
  · refine lv_iload_n hx hb dX3_isSet_4 rfl (lv_at hl 1 rfl) ?_
    refine lv_aload_n hx hb dX3_isSet_5 rfl (lv_at hl 0 rfl) ?_
    refine va_get (D := D) (ci := 3) (v := .ref a3) (C := RX3) (T := TX3) (N := 16) hx hb hts hi_RX3 hown hK hP 0 rfl rfl 2 (by decide) hf_16 (fun _ h9 => h9) rfl dX3_isSet_6 ?_
    refine lv_iconst (v := nI 0) hx hb dX3_isSet_9 (by decide) ?_
    refine mq_ld (k := 0) nI ms hx hb hK hP 3 0 rfl rfl (by omega) (Nat.le_of_ble_eq_true rfl) dX3_isSet_10 ?_
    refine mq_ge (x := k) (y := (ms 0)) (tgt := 18) (by omega) (by omega) hx hb dX3_isSet_11 (by decide) (fun c2 => ?_) (fun c2 => ?_)
    · exact absurd hk (by omega)
    · refine lv_iconst (v := nI 1) hx hb dX3_isSet_14 (by decide) ?_
      refine lv_goto (tgt := 19) hx hb dX3_isSet_15 (by decide) ?_
      exact CtI.zret hQ hx hb hr narrow_b1 hlk hK hP hD hS dX3_isSet_19 rfl rfl
set_option maxRecDepth 100000 in
set_option maxHeartbeats 4000000 in
theorem m_isSetN (l : Launch) (D : va_G) (cyI cyZ cyJ : ClassId) (h a1 a2 a3 a4 a5 a6 a7 a8 a9 a10 : Nat) (mw : Nat → Int32) (mh : Nat → Int32) (ms : Nat → Nat) (mp : Nat → Nat) (ml : Nat → Option Nat) (mb : Nat → Nat) (mm : Nat → Nat) (md : Nat → Bool) (mc : Nat → Int32) (mhi : Int32) (msw : Int32) (mmi : Int32) (mhc : Int32) (ma : Nat → Nat) (mq : Nat) (mt : Nat) (x : Int32) (hbad : x < 0 ∨ nI (ms 0) ≤ x) : CtI l yX3_isSet wsX3_isSet rmX3_isSet D (T3 cyI cyZ cyJ) [.ref h, .int x] (MDc cyI h a1 a2 a3 a4 a5 a6 a7 a8 a9 a10 (mw, mh, ms, mp, ml, mb, mm, md, mc, mhi, msw, mmi, mhc, ma, mq, mt)) (bI false) (MDc cyI h a1 a2 a3 a4 a5 a6 a7 a8 a9 a10 (mw, mh, ms, mp, ml, mb, mm, md, mc, mhi, msw, mmi, mhc, ma, mq, mt)) := by
  refine CtI.of (cc := cX3_isSet) (maxL := 2) (ret := (some .boolean)) (lv0 := [(0, .ref h), (1, .int x)]) (by decide) rfl (Nat.le_of_ble_eq_true rfl) rfl ?_
  intro p e s m below meth c A ls args Q hx hb hml hr hlk hts hown hK hP hA hD hS hl hQ
  have hown : s.vm.findClass RX3 = some m.cls := hown
  have hi_RX3 : ∀ w ∈ wsX30, w ∈ wsX3_isSet := by decide +kernel
  have hf_16 := hts (.fieldLink RX3 16 "OutcastBenchModel" "sets" "[I") (by decide +kernel)
  refine lv_iload_n hx hb dX3_isSet_0 rfl (lv_at hl 1 rfl) ?_
  refine lv_if_lt (x := x) (tgt := 18) hx hb dX3_isSet_1 (by decide) (fun c1 => ?_) (fun c1 => ?_)
  · refine lv_iconst (v := nI 0) hx hb dX3_isSet_18 (by decide) ?_
    exact CtI.zret hQ hx hb hr narrow_b0 hlk hK hP hD hS dX3_isSet_19 rfl rfl
  · refine lv_iload_n hx hb dX3_isSet_4 rfl (lv_at hl 1 rfl) ?_
    refine lv_aload_n hx hb dX3_isSet_5 rfl (lv_at hl 0 rfl) ?_
    refine va_get (D := D) (ci := 3) (v := .ref a3) (C := RX3) (T := TX3) (N := 16) hx hb hts hi_RX3 hown hK hP 0 rfl rfl 2 (by decide) hf_16 (fun _ h9 => h9) rfl dX3_isSet_6 ?_
    refine lv_iconst (v := nI 0) hx hb dX3_isSet_9 (by decide) ?_
    refine mq_ld (k := 0) nI ms hx hb hK hP 3 0 rfl rfl (by omega) (Nat.le_of_ble_eq_true rfl) dX3_isSet_10 ?_
    refine lv_icmp_ge (x := x) (y := nI (ms 0)) (tgt := 18) hx hb dX3_isSet_11 (by decide) (fun c2 => ?_) (fun c2 => ?_)
    · refine lv_iconst (v := nI 0) hx hb dX3_isSet_18 (by decide) ?_
      exact CtI.zret hQ hx hb hr narrow_b0 hlk hK hP hD hS dX3_isSet_19 rfl rfl
    · exact absurd hbad (fun hh => hh.elim c1 c2)
abbrev rmX3_isLine : Room := { frames := 0, cells := 0, slots := 0, locals := 0 }
set_option maxRecDepth 100000 in
set_option maxHeartbeats 4000000 in
theorem m_isLine (l : Launch) (D : va_G) (cyI cyZ cyJ : ClassId) (h a1 a2 a3 a4 a5 a6 a7 a8 a9 a10 : Nat) (mw : Nat → Int32) (mh : Nat → Int32) (ms : Nat → Nat) (mp : Nat → Nat) (ml : Nat → Option Nat) (mb : Nat → Nat) (mm : Nat → Nat) (md : Nat → Bool) (mc : Nat → Int32) (mhi : Int32) (msw : Int32) (mmi : Int32) (mhc : Int32) (ma : Nat → Nat) (mq : Nat) (mt : Nat) (q : Nat) (hq : q < 256) : CtI l yX3_isLine wsX3_isLine rmX3_isLine D (T3 cyI cyZ cyJ) [.ref h, .int (nI q)] (MDc cyI h a1 a2 a3 a4 a5 a6 a7 a8 a9 a10 (mw, mh, ms, mp, ml, mb, mm, md, mc, mhi, msw, mmi, mhc, ma, mq, mt)) (bI true) (MDc cyI h a1 a2 a3 a4 a5 a6 a7 a8 a9 a10 (md_thr 0 (mw, mh, ms, mp, ml, mb, mm, md, mc, mhi, msw, mmi, mhc, ma, mq, mt))) := by
  refine CtI.of (cc := cX3_isLine) (maxL := 2) (ret := (some .boolean)) (lv0 := [(0, .ref h), (1, .int (nI q))]) (by decide) rfl (Nat.le_of_ble_eq_true rfl) rfl ?_
  intro p e s m below meth c A ls args Q hx hb hml hr hlk hts hown hK hP hA hD hS hl hQ
  have hown : s.vm.findClass RX3 = some m.cls := hown
  have hi_RX3 : ∀ w ∈ wsX30, w ∈ wsX3_isLine := by decide +kernel
  have hf_44 := hts (.fieldLink RX3 44 "OutcastBenchModel" "thrown" "I") (by decide +kernel)
  refine lv_aload_n hx hb dX3_isLine_0 rfl (lv_at hl 0 rfl) ?_
  refine lv_iload_n hx hb dX3_isLine_1 rfl (lv_at hl 1 rfl) ?_
  refine lv_if_lt (x := nI q) (tgt := 16) hx hb dX3_isLine_2 (by decide) (fun c1 => ?_) (fun c1 => ?_)
  · exact absurd c1 (nI_pos (by omega))
  · refine lv_iload_n hx hb dX3_isLine_5 rfl (lv_at hl 1 rfl) ?_
    refine lv_sipush (v := nI 256) hx hb dX3_isLine_6 (by decide) ?_
    refine mq_ge (x := q) (y := 256) (tgt := 16) (by omega) (by omega) hx hb dX3_isLine_9 (by decide) (fun c2 => ?_) (fun c2 => ?_)
    · exact absurd hq (by omega)
    · refine lv_iconst (v := nI 0) hx hb dX3_isLine_12 (by decide) ?_
      refine lv_goto (tgt := 17) hx hb dX3_isLine_13 (by decide) ?_
      refine mq_put (D := D) (ci := 3) (v := .int (nI 0)) (ty := .int) (C := RX3) (T := TX3) (N := 16) (ws' := MDc cyI h a1 a2 a3 a4 a5 a6 a7 a8 a9 a10 (mw, mh, ms, mp, ml, mb, mm, md, mc, mhi, msw, mmi, mhc, ma, mq, 0)) hx hb hts hi_RX3 tyX3 tyX3_ok nmX3 hown hK hP hD hS 0 rfl rfl 15 (by decide) hf_44 (fun _ h9 => h9) rfl (by decide +kernel) rfl rfl (Nat.le_of_ble_eq_true rfl) dX3_isLine_17 rfl (fun H locs hP hD hS => ?_)
      refine lv_aload_n hx hb dX3_isLine_20 rfl (lv_at hl 0 rfl) ?_
      refine va_get (D := D) (ci := 3) (v := .int (nI 0)) (C := RX3) (T := TX3) (N := 16) hx hb hts hi_RX3 hown hK hP 0 rfl rfl 15 (by decide) hf_44 (fun _ h9 => h9) rfl dX3_isLine_21 ?_
      refine mq_nz (x := 0) (tgt := 31) (by omega) hx hb dX3_isLine_24 (by decide) (fun c1 => ?_) (fun c1 => ?_)
      · exact absurd c1 (by decide)
      · refine lv_iconst (v := nI 1) hx hb dX3_isLine_27 (by decide) ?_
        refine lv_goto (tgt := 32) hx hb dX3_isLine_28 (by decide) ?_
        exact CtI.zret hQ hx hb hr narrow_b1 hlk hK hP hD hS dX3_isLine_32 rfl (congrArg (MDc cyI h a1 a2 a3 a4 a5 a6 a7 a8 a9 a10) rfl)
set_option maxRecDepth 100000 in
set_option maxHeartbeats 4000000 in
theorem m_isLineN (l : Launch) (D : va_G) (cyI cyZ cyJ : ClassId) (h a1 a2 a3 a4 a5 a6 a7 a8 a9 a10 : Nat) (mw : Nat → Int32) (mh : Nat → Int32) (ms : Nat → Nat) (mp : Nat → Nat) (ml : Nat → Option Nat) (mb : Nat → Nat) (mm : Nat → Nat) (md : Nat → Bool) (mc : Nat → Int32) (mhi : Int32) (msw : Int32) (mmi : Int32) (mhc : Int32) (ma : Nat → Nat) (mq : Nat) (mt : Nat) (x : Int32) (hbad : x < 0 ∨ nI 256 ≤ x) : CtI l yX3_isLine wsX3_isLine rmX3_isLine D (T3 cyI cyZ cyJ) [.ref h, .int x] (MDc cyI h a1 a2 a3 a4 a5 a6 a7 a8 a9 a10 (mw, mh, ms, mp, ml, mb, mm, md, mc, mhi, msw, mmi, mhc, ma, mq, mt)) (bI false) (MDc cyI h a1 a2 a3 a4 a5 a6 a7 a8 a9 a10 (md_thr 1 (mw, mh, ms, mp, ml, mb, mm, md, mc, mhi, msw, mmi, mhc, ma, mq, mt))) := by
  refine CtI.of (cc := cX3_isLine) (maxL := 2) (ret := (some .boolean)) (lv0 := [(0, .ref h), (1, .int x)]) (by decide) rfl (Nat.le_of_ble_eq_true rfl) rfl ?_
  intro p e s m below meth c A ls args Q hx hb hml hr hlk hts hown hK hP hA hD hS hl hQ
  have hown : s.vm.findClass RX3 = some m.cls := hown
  have hi_RX3 : ∀ w ∈ wsX30, w ∈ wsX3_isLine := by decide +kernel
  have hf_44 := hts (.fieldLink RX3 44 "OutcastBenchModel" "thrown" "I") (by decide +kernel)
  refine lv_aload_n hx hb dX3_isLine_0 rfl (lv_at hl 0 rfl) ?_
  refine lv_iload_n hx hb dX3_isLine_1 rfl (lv_at hl 1 rfl) ?_
  refine lv_if_lt (x := x) (tgt := 16) hx hb dX3_isLine_2 (by decide) (fun c1 => ?_) (fun c1 => ?_)
  · refine lv_iconst (v := nI 1) hx hb dX3_isLine_16 (by decide) ?_
    refine mq_put (D := D) (ci := 3) (v := .int (nI 1)) (ty := .int) (C := RX3) (T := TX3) (N := 16) (ws' := MDc cyI h a1 a2 a3 a4 a5 a6 a7 a8 a9 a10 (mw, mh, ms, mp, ml, mb, mm, md, mc, mhi, msw, mmi, mhc, ma, mq, 1)) hx hb hts hi_RX3 tyX3 tyX3_ok nmX3 hown hK hP hD hS 0 rfl rfl 15 (by decide) hf_44 (fun _ h9 => h9) rfl (by decide +kernel) rfl rfl (Nat.le_of_ble_eq_true rfl) dX3_isLine_17 rfl (fun H locs hP hD hS => ?_)
    refine lv_aload_n hx hb dX3_isLine_20 rfl (lv_at hl 0 rfl) ?_
    refine va_get (D := D) (ci := 3) (v := .int (nI 1)) (C := RX3) (T := TX3) (N := 16) hx hb hts hi_RX3 hown hK hP 0 rfl rfl 15 (by decide) hf_44 (fun _ h9 => h9) rfl dX3_isLine_21 ?_
    refine mq_nz (x := 1) (tgt := 31) (by omega) hx hb dX3_isLine_24 (by decide) (fun c1 => ?_) (fun c1 => ?_)
    · refine lv_iconst (v := nI 0) hx hb dX3_isLine_31 (by decide) ?_
      exact CtI.zret hQ hx hb hr narrow_b0 hlk hK hP hD hS dX3_isLine_32 rfl (congrArg (MDc cyI h a1 a2 a3 a4 a5 a6 a7 a8 a9 a10) rfl)
    · exact absurd c1 (by decide)
  · refine lv_iload_n hx hb dX3_isLine_5 rfl (lv_at hl 1 rfl) ?_
    refine lv_sipush (v := nI 256) hx hb dX3_isLine_6 (by decide) ?_
    refine lv_icmp_ge (x := x) (y := 256) (tgt := 16) hx hb dX3_isLine_9 (by decide) (fun c2 => ?_) (fun c2 => ?_)
    · refine lv_iconst (v := nI 1) hx hb dX3_isLine_16 (by decide) ?_
      refine mq_put (D := D) (ci := 3) (v := .int (nI 1)) (ty := .int) (C := RX3) (T := TX3) (N := 16) (ws' := MDc cyI h a1 a2 a3 a4 a5 a6 a7 a8 a9 a10 (mw, mh, ms, mp, ml, mb, mm, md, mc, mhi, msw, mmi, mhc, ma, mq, 1)) hx hb hts hi_RX3 tyX3 tyX3_ok nmX3 hown hK hP hD hS 0 rfl rfl 15 (by decide) hf_44 (fun _ h9 => h9) rfl (by decide +kernel) rfl rfl (Nat.le_of_ble_eq_true rfl) dX3_isLine_17 rfl (fun H locs hP hD hS => ?_)
      refine lv_aload_n hx hb dX3_isLine_20 rfl (lv_at hl 0 rfl) ?_
      refine va_get (D := D) (ci := 3) (v := .int (nI 1)) (C := RX3) (T := TX3) (N := 16) hx hb hts hi_RX3 hown hK hP 0 rfl rfl 15 (by decide) hf_44 (fun _ h9 => h9) rfl dX3_isLine_21 ?_
      refine mq_nz (x := 1) (tgt := 31) (by omega) hx hb dX3_isLine_24 (by decide) (fun c2 => ?_) (fun c2 => ?_)
      · refine lv_iconst (v := nI 0) hx hb dX3_isLine_31 (by decide) ?_
        exact CtI.zret hQ hx hb hr narrow_b0 hlk hK hP hD hS dX3_isLine_32 rfl (congrArg (MDc cyI h a1 a2 a3 a4 a5 a6 a7 a8 a9 a10) rfl)
      · exact absurd c2 (by decide)
    · exact absurd hbad (fun hh => hh.elim c1 c2)

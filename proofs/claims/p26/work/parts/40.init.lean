abbrev rmX0_init : Room := { frames := 2, cells := 3, slots := 280, locals := 46 }
set_option maxRecDepth 100000 in
set_option maxHeartbeats 4000000 in
theorem i_cb (l : Launch) (D : va_G) (cyI cyZ cyJ : ClassId) (h : Nat) (s' p' : Nat)  : CtN (S := Nat × Nat × Nat) l yX0_init wsX0_init rmX0_init D (T3 cyI cyZ cyJ) [.ref h, .int (nI s'), .int (nI p')] [(h, .inr (0, [.int 0, .int 0, .null, .null, .int 0, .null, .int 0, .int 0, .int 0, .int 0, .int 0]))] (fun u => CBc cyI cyZ h u.1 u.2.1 u.2.2 (s', p', fun _ => none, fun _ => 0, 0, fun _ => false, 0, 0, 0, 0, 0)) noN 3 280 := by
  refine CtN.of (cc := cX0_init) (maxL := 3) (ret := none) (lv0 := [(0, .ref h), (1, .int (nI s')), (2, .int (nI p'))]) (by decide) rfl (Nat.le_of_ble_eq_true rfl) rfl ?_
  intro p e s m below meth c A ls args Q hx hb hml hr hlk hin hNs hts hown hK hP hA hD hS hl hQ
  have hin : meth.name = "<init>" := hin
  have hown : s.vm.findClass RX0 = some m.cls := hown
  have hi_RX0 : ∀ w ∈ wsX00, w ∈ wsX0_init := by decide +kernel
  have hf_9 := hts (.fieldLink RX0 9 "OutcastBench$CacheAndBench" "lines" "[I") (by decide +kernel)
  have hf_15 := hts (.fieldLink RX0 15 "OutcastBench$CacheAndBench" "bench" "[I") (by decide +kernel)
  have hf_18 := hts (.fieldLink RX0 18 "OutcastBench$CacheAndBench" "dirtyLines" "[Z") (by decide +kernel)
  refine lv_aload_n hx hb dX0_init_0 rfl (lv_at hl 0 rfl) ?_
  refine W.objInit hx hb hown (hts (.methodLink RX0 3 objectInit) (by decide +kernel)) (hts (.instanceMethod objectInit) (by decide +kernel)) (hts (.code objectInit ⟨#[0xb1]⟩ 1 none) (by decide +kernel)) rfl (by rw [hml]; exact hl.1) rfl dX0_init_1 (Nat.le_of_ble_eq_true rfl) (Nat.le_of_ble_eq_true rfl) ?_
  refine W.eq (g2 := F0 m 4 ls []) rfl ?_
  refine lv_aload_n hx hb dX0_init_4 rfl (lv_at hl 0 rfl) ?_
  refine lv_bipush (v := nI 16) hx hb dX0_init_5 (by decide) ?_
  refine mq_newa (atype := .int) (ty := .int) (a0 := (16, .inl (fun _ => 0))) (N' := 16) hx hb (hts (.arrayClass .int) (by decide +kernel)) rfl hK hP hD hS hA 0 rfl (fun _ h9 => h9) (fun _ => rfl) (by decide) (nI_clamp (Nat.le_of_ble_eq_true rfl)) (Nat.le_of_ble_eq_true rfl) (Nat.le_of_ble_eq_true rfl) (Nat.le_of_ble_eq_true rfl) dX0_init_7 (fun q1 H hP hD hS => ?_)
  have hP : va_P D vwCl ([(h, .inr (0, [.int 0, .int 0, .null, .null, .int 0, .null, .int 0, .int 0, .int 0, .int 0, .int 0])), (q1, .inl (cyI, 16, .inl (fun _ => 0)))]) H := hP
  have hD : va_D A ([(h, .inr (0, [.int 0, .int 0, .null, .null, .int 0, .null, .int 0, .int 0, .int 0, .int 0, .int 0])), (q1, .inl (cyI, 16, .inl (fun _ => 0)))]) := hD
  refine mq_putF (D := D) (ci := 0) (v := .ref q1) (ty := .array .int) (C := RX0) (T := TX0) (N := 11) (ws' := [(h, .inr (0, [.int 0, .int 0, .ref q1, .null, .int 0, .null, .int 0, .int 0, .int 0, .int 0, .int 0])), (q1, .inl (cyI, 16, .inl (fun _ => 0)))]) hx hb hts hi_RX0 tyX0 tyX0_ok nmX0 hown hK hP hD hS 0 rfl rfl 2 (by decide) hf_9 (fun _ h9 => h9) rfl hin rfl (by decide +kernel) rfl rfl (Nat.le_of_ble_eq_true rfl) dX0_init_9 rfl (fun H locs hP hD hS => ?_)
  refine lv_aload_n hx hb dX0_init_12 rfl (lv_at hl 0 rfl) ?_
  refine lv_bipush (v := nI 8) hx hb dX0_init_13 (by decide) ?_
  refine mq_newa (atype := .int) (ty := .int) (a0 := (8, .inl (fun _ => 0))) (N' := 8) hx hb (hts (.arrayClass .int) (by decide +kernel)) rfl hK hP hD hS hA 0 rfl (fun _ h9 => h9) (fun _ => rfl) (by decide) (nI_clamp (Nat.le_of_ble_eq_true rfl)) (Nat.le_of_ble_eq_true rfl) (Nat.le_of_ble_eq_true rfl) (Nat.le_of_ble_eq_true rfl) dX0_init_15 (fun q2 H hP hD hS => ?_)
  have hP : va_P D vwCl ([(h, .inr (0, [.int 0, .int 0, .ref q1, .null, .int 0, .null, .int 0, .int 0, .int 0, .int 0, .int 0])), (q1, .inl (cyI, 16, .inl (fun _ => 0))), (q2, .inl (cyI, 8, .inl (fun _ => 0)))]) H := hP
  have hD : va_D A ([(h, .inr (0, [.int 0, .int 0, .ref q1, .null, .int 0, .null, .int 0, .int 0, .int 0, .int 0, .int 0])), (q1, .inl (cyI, 16, .inl (fun _ => 0))), (q2, .inl (cyI, 8, .inl (fun _ => 0)))]) := hD
  refine mq_putF (D := D) (ci := 0) (v := .ref q2) (ty := .array .int) (C := RX0) (T := TX0) (N := 11) (ws' := [(h, .inr (0, [.int 0, .int 0, .ref q1, .ref q2, .int 0, .null, .int 0, .int 0, .int 0, .int 0, .int 0])), (q1, .inl (cyI, 16, .inl (fun _ => 0))), (q2, .inl (cyI, 8, .inl (fun _ => 0)))]) hx hb hts hi_RX0 tyX0 tyX0_ok nmX0 hown hK hP hD hS 0 rfl rfl 3 (by decide) hf_15 (fun _ h9 => h9) rfl hin rfl (by decide +kernel) rfl rfl (Nat.le_of_ble_eq_true rfl) dX0_init_17 rfl (fun H locs hP hD hS => ?_)
  refine lv_aload_n hx hb dX0_init_20 rfl (lv_at hl 0 rfl) ?_
  refine lv_sipush (v := nI 256) hx hb dX0_init_21 (by decide) ?_
  refine mq_newa (atype := .boolean) (ty := .boolean) (a0 := (256, .inl (fun _ => 0))) (N' := 256) hx hb (hts (.arrayClass .boolean) (by decide +kernel)) rfl hK hP hD hS hA 1 rfl (fun _ h9 => h9) (fun _ => rfl) (by decide) (nI_clamp (Nat.le_of_ble_eq_true rfl)) (Nat.le_of_ble_eq_true rfl) (Nat.le_of_ble_eq_true rfl) (Nat.le_of_ble_eq_true rfl) dX0_init_24 (fun q3 H hP hD hS => ?_)
  have hP : va_P D vwCl ([(h, .inr (0, [.int 0, .int 0, .ref q1, .ref q2, .int 0, .null, .int 0, .int 0, .int 0, .int 0, .int 0])), (q1, .inl (cyI, 16, .inl (fun _ => 0))), (q2, .inl (cyI, 8, .inl (fun _ => 0))), (q3, .inl (cyZ, 256, .inl (fun _ => 0)))]) H := hP
  have hD : va_D A ([(h, .inr (0, [.int 0, .int 0, .ref q1, .ref q2, .int 0, .null, .int 0, .int 0, .int 0, .int 0, .int 0])), (q1, .inl (cyI, 16, .inl (fun _ => 0))), (q2, .inl (cyI, 8, .inl (fun _ => 0))), (q3, .inl (cyZ, 256, .inl (fun _ => 0)))]) := hD
  refine mq_putF (D := D) (ci := 0) (v := .ref q3) (ty := .array .boolean) (C := RX0) (T := TX0) (N := 11) (ws' := [(h, .inr (0, [.int 0, .int 0, .ref q1, .ref q2, .int 0, .ref q3, .int 0, .int 0, .int 0, .int 0, .int 0])), (q1, .inl (cyI, 16, .inl (fun _ => 0))), (q2, .inl (cyI, 8, .inl (fun _ => 0))), (q3, .inl (cyZ, 256, .inl (fun _ => 0)))]) hx hb hts hi_RX0 tyX0 tyX0_ok nmX0 hown hK hP hD hS 0 rfl rfl 5 (by decide) hf_18 (fun _ h9 => h9) rfl hin rfl (by decide +kernel) rfl rfl (Nat.le_of_ble_eq_true rfl) dX0_init_26 rfl (fun H locs hP hD hS => ?_)
  refine lv_aload_n hx hb dX0_init_29 rfl (lv_at hl 0 rfl) ?_
  refine lv_iload_n hx hb dX0_init_30 rfl (lv_at hl 1 rfl) ?_
  refine lv_iload_n hx hb dX0_init_31 rfl (lv_at hl 2 rfl) ?_
  have hP : va_P D vwCl (CBc cyI cyZ h q1 q2 q3 (0, 0, fun _ => some 0, fun _ => 0, 0, fun _ => false, 0, 0, 0, 0, 0)) H := hP
  have hD : va_D A (CBc cyI cyZ h q1 q2 q3 (0, 0, fun _ => some 0, fun _ => 0, 0, fun _ => false, 0, 0, 0, 0, 0)) := hD
  refine CtV.callV (n := 2) (q0 := 0) (ci := 0) (wc := CBc cyI cyZ h q1 q2 q3 (0, 0, fun _ => some 0, fun _ => 0, 0, fun _ => false, 0, 0, 0, 0, 0)) (wr := ([] : va_W)) (w1 := CBc cyI cyZ h q1 q2 q3 (s', p', fun _ => none, fun _ => 0, 0, fun _ => false, 0, 0, 0, 0, 0)) (ws' := CBc cyI cyZ h q1 q2 q3 (s', p', fun _ => none, fun _ => 0, 0, fun _ => false, 0, 0, 0, 0, 0)) (isC := [0, 1, 2, 3]) (isR := []) (ps := [0, 1, 2, 3]) (As := [.int (nI s'), .int (nI p')]) (rest := []) (c_startEmptyU l D cyI cyZ cyJ h q1 q2 q3 (0, 0, fun _ => some 0, fun _ => 0, 0, fun _ => false, 0, 0, 0, 0, 0) s' p') ⟨hx, hb, hown, hts⟩ gX0_init_X0_startEmpty rfl ⟨rfl, by decide, by decide, by decide +kernel⟩ ⟨Nat.le_of_ble_eq_true rfl, Nat.le_of_ble_eq_true rfl⟩ ⟨rfl, rfl⟩ hml hl.1 hK hP hD hS hA ⟨rfl, rfl, rfl, rfl, rfl, rfl, rfl⟩ rfl ⟨rfl, rfl⟩ rfl rfl (Nat.le_of_ble_eq_true rfl) ⟨Nat.le_of_ble_eq_true rfl, Nat.le_of_ble_eq_true rfl⟩ dX0_init_32 (fun H locs hP hD hS => ?_)
  exact CtN.ret (q1, q2, q3) hQ hx hb hr hlk hK hP hD hS dX0_init_35 rfl
abbrev rmX1_init : Room := { frames := 1, cells := 2, slots := 300, locals := 12 }
set_option maxRecDepth 100000 in
set_option maxHeartbeats 4000000 in
theorem i_la (l : Launch) (D : va_G) (cyI cyZ cyJ : ClassId) (h : Nat)   : CtN (S := Nat × Nat) l yX1_init wsX1_init rmX1_init D (T3 cyI cyZ cyJ) [.ref h] [(h, .inr (1, [.null, .null, .int 0, .int 0]))] (fun u => LAc cyI cyZ h u.1 u.2 (fun _ => 0, fun _ => false, 0, 0)) noN 2 300 := by
  refine CtN.of (cc := cX1_init) (maxL := 1) (ret := none) (lv0 := [(0, .ref h)]) (by decide) rfl (Nat.le_of_ble_eq_true rfl) rfl ?_
  intro p e s m below meth c A ls args Q hx hb hml hr hlk hin hNs hts hown hK hP hA hD hS hl hQ
  have hin : meth.name = "<init>" := hin
  have hown : s.vm.findClass RX1 = some m.cls := hown
  have hi_RX1 : ∀ w ∈ wsX10, w ∈ wsX1_init := by decide +kernel
  have hf_9 := hts (.fieldLink RX1 9 "OutcastBench$LastAccesses" "lines" "[I") (by decide +kernel)
  have hf_15 := hts (.fieldLink RX1 15 "OutcastBench$LastAccesses" "writes" "[Z") (by decide +kernel)
  refine lv_aload_n hx hb dX1_init_0 rfl (lv_at hl 0 rfl) ?_
  refine W.objInit hx hb hown (hts (.methodLink RX1 3 objectInit) (by decide +kernel)) (hts (.instanceMethod objectInit) (by decide +kernel)) (hts (.code objectInit ⟨#[0xb1]⟩ 1 none) (by decide +kernel)) rfl (by rw [hml]; exact hl.1) rfl dX1_init_1 (Nat.le_of_ble_eq_true rfl) (Nat.le_of_ble_eq_true rfl) ?_
  refine W.eq (g2 := F0 m 4 ls []) rfl ?_
  refine lv_aload_n hx hb dX1_init_4 rfl (lv_at hl 0 rfl) ?_
  refine lv_sipush (v := nI 150) hx hb dX1_init_5 (by decide) ?_
  refine mq_newa (atype := .int) (ty := .int) (a0 := (150, .inl (fun _ => 0))) (N' := 150) hx hb (hts (.arrayClass .int) (by decide +kernel)) rfl hK hP hD hS hA 0 rfl (fun _ h9 => h9) (fun _ => rfl) (by decide) (nI_clamp (Nat.le_of_ble_eq_true rfl)) (Nat.le_of_ble_eq_true rfl) (Nat.le_of_ble_eq_true rfl) (Nat.le_of_ble_eq_true rfl) dX1_init_8 (fun q1 H hP hD hS => ?_)
  have hP : va_P D vwCl ([(h, .inr (1, [.null, .null, .int 0, .int 0])), (q1, .inl (cyI, 150, .inl (fun _ => 0)))]) H := hP
  have hD : va_D A ([(h, .inr (1, [.null, .null, .int 0, .int 0])), (q1, .inl (cyI, 150, .inl (fun _ => 0)))]) := hD
  refine mq_putF (D := D) (ci := 1) (v := .ref q1) (ty := .array .int) (C := RX1) (T := TX1) (N := 4) (ws' := [(h, .inr (1, [.ref q1, .null, .int 0, .int 0])), (q1, .inl (cyI, 150, .inl (fun _ => 0)))]) hx hb hts hi_RX1 tyX1 tyX1_ok nmX1 hown hK hP hD hS 0 rfl rfl 0 (by decide) hf_9 (fun _ h9 => h9) rfl hin rfl (by decide +kernel) rfl rfl (Nat.le_of_ble_eq_true rfl) dX1_init_10 rfl (fun H locs hP hD hS => ?_)
  refine lv_aload_n hx hb dX1_init_13 rfl (lv_at hl 0 rfl) ?_
  refine lv_sipush (v := nI 150) hx hb dX1_init_14 (by decide) ?_
  refine mq_newa (atype := .boolean) (ty := .boolean) (a0 := (150, .inl (fun _ => 0))) (N' := 150) hx hb (hts (.arrayClass .boolean) (by decide +kernel)) rfl hK hP hD hS hA 1 rfl (fun _ h9 => h9) (fun _ => rfl) (by decide) (nI_clamp (Nat.le_of_ble_eq_true rfl)) (Nat.le_of_ble_eq_true rfl) (Nat.le_of_ble_eq_true rfl) (Nat.le_of_ble_eq_true rfl) dX1_init_17 (fun q2 H hP hD hS => ?_)
  have hP : va_P D vwCl ([(h, .inr (1, [.ref q1, .null, .int 0, .int 0])), (q1, .inl (cyI, 150, .inl (fun _ => 0))), (q2, .inl (cyZ, 150, .inl (fun _ => 0)))]) H := hP
  have hD : va_D A ([(h, .inr (1, [.ref q1, .null, .int 0, .int 0])), (q1, .inl (cyI, 150, .inl (fun _ => 0))), (q2, .inl (cyZ, 150, .inl (fun _ => 0)))]) := hD
  refine mq_putF (D := D) (ci := 1) (v := .ref q2) (ty := .array .boolean) (C := RX1) (T := TX1) (N := 4) (ws' := [(h, .inr (1, [.ref q1, .ref q2, .int 0, .int 0])), (q1, .inl (cyI, 150, .inl (fun _ => 0))), (q2, .inl (cyZ, 150, .inl (fun _ => 0)))]) hx hb hts hi_RX1 tyX1 tyX1_ok nmX1 hown hK hP hD hS 0 rfl rfl 1 (by decide) hf_15 (fun _ h9 => h9) rfl hin rfl (by decide +kernel) rfl rfl (Nat.le_of_ble_eq_true rfl) dX1_init_19 rfl (fun H locs hP hD hS => ?_)
  exact CtN.ret (q1, q2) hQ hx hb hr hlk hK hP hD hS dX1_init_22 rfl

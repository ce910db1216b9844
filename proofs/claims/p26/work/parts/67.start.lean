/-! the start: what the tables give, all made, the loop -/
theorem arr_known {args : Array Value} {s : State} {ty : FieldType} (h : (Cond.arrayClass ty).before args s = true) : ∃ cA : ClassId, ArrOfT s cA ty ∧ s.vm.findClass ("[" ++ ty.toString) = some cA := by
  obtain ⟨cA, kA, comp, hfind, hk, hkind⟩ := Cond.arrayClass_spec (args := args) (first := s) (o := none) (s := s) (idx := []) h
  exact ⟨cA, fun n z => ⟨fun k h => (by cases h), kA, hk, comp, hkind⟩, hfind⟩
theorem lw_K {s : State} {args : Array Value} (hts : ∀ w ∈ lw_tbl, w.before args s = true) : ∃ (D : va_G) (cyI cyZ : ClassId), va_K D vwCl (T3 cyI cyZ cyI) s := by
  obtain ⟨c0, i0, h0⟩ := u_known hts inX0 (hts (.instantiable RX0 11) (by decide +kernel))
  obtain ⟨c1, i1, h1⟩ := u_known hts inX1 (hts (.instantiable RX1 4) (by decide +kernel))
  obtain ⟨c2, i2, h2⟩ := u_known hts inX2 (hts (.instantiable RX2 5) (by decide +kernel))
  obtain ⟨cI, a1, a2⟩ := arr_known (hts (.arrayClass .int) (by decide +kernel))
  obtain ⟨cZ, b1, b2⟩ := arr_known (hts (.arrayClass .boolean) (by decide +kernel))
  refine ⟨(fun k => ([c0, c1, c2] : List ClassId).getD k c0, fun k => ([i0, i1, i2] : List (Nat → Nat)).getD k i0), cI, cZ, fun c q hq => ?_, fun k q hq => ?_⟩
  · match c, hq with
    | 0, hq => cases hq; exact h0
    | 1, hq => cases hq; exact h1
    | 2, hq => cases hq; exact h2
    | k + 3, hq => cases hq
  · match k, hq with
    | 0, hq => cases hq; exact ⟨a1, a2⟩
    | 1, hq => cases hq; exact ⟨b1, b2⟩
    | k + 2, hq => cases hq
set_option maxRecDepth 100000 in
set_option maxHeartbeats 4000000 in
theorem whole_start {p : Program} {e : Env} {s : State} {m : MethodId} {below : List Frame} {meth : Method} {c : Code} (l : Launch) (hflags : l.flags = flags0) {b L : Nat} {xs : Nat → Int32} (hL : L ≤ 260) (C0 : lw_At p s m meth c b L xs) : W p l e room_1 s m #[Value.ref b] below meth c s.heap [] 0 0 (lw_Z below #[Value.ref b] s) (entryFrame m ([Value.ref b] : List Value).toArray 13) := by
  obtain ⟨hx, hb, hrt, hml, hown, hts, hX, hbl, hlk, hgv⟩ := C0
  have hb : c.code = cL_law := hb
  have hown : s.vm.findClass RL = some m.cls := hown
  obtain ⟨D, cyI, cyZ, hK⟩ := lw_K hts
  have hwl : ∀ w ∈ wsL_law, w.before #[Value.ref b] s = true := fun w h => hts w (wsL_law_in w h)
  have hA : ∀ q : Nat, s.heap.size ≤ q → (fun q : Nat => s.heap.size ≤ q) q := fun q h => h
  have hbA : ¬ (fun q : Nat => s.heap.size ≤ q) b := fun h => by
    have h : s.heap.size ≤ b := h
    omega
  have hlnk : lnkN s := va_Nw.of rfl (hts (.methodLinkNest RX2 30 yX1_init RX2) (by decide +kernel))
  have hl := lv_entry [Value.ref b] (n := 13) (Nat.le_of_ble_eq_true rfl)
  rw [lg_entry_eq]
  have hl : lv_has _ 13 [(0, .ref b)] := hl
  have hP : va_P D vwCl [] s.heap := fun k q h => by cases h
  have hD : va_D (fun q : Nat => s.heap.size ≤ q) ([] : va_W) := ⟨fun i j p q hp => (by cases hp), fun k q h => (by cases h)⟩
  have hS : va_S (fun q : Nat => s.heap.size ≤ q) s.heap s.heap [] := va_S.rf
  refine va_new (ci := 2) (fs := [.null, .null, .null, .null, .null]) (C := RX2) (T := TX2) (N := 5) hx hb hts inX2 tyX2 tyX2_ok hown (hts (.classLink RL 9 RX2) (by decide +kernel)) (hts (.instantiable RX2 5) (by decide +kernel)) (hts (.initialized RX2) (by decide +kernel)) hK hP hD hS hA rfl (fun j hj => by rcases (show j = 0 ∨ j = 1 ∨ j = 2 ∨ j = 3 ∨ j = 4 by omega) with rfl | rfl | rfl | rfl | rfl <;> rfl) (Nat.le_of_ble_eq_true rfl) (Nat.le_of_ble_eq_true rfl) dL_law_0 (fun h H hP hD hS => ?_)
  refine lv_dup hx hb dL_law_3 rfl ?_
  refine CtN.callI (n := 0) (index := 58) (wc := [(h, .inr (2, [.null, .null, .null, .null, .null]))]) (wr := []) (isC := [0]) (isR := []) (As := []) (rest := [.ref h]) (i_ob l D cyI cyZ cyI h) ⟨hx, hb, hown, hwl⟩ (cwI 0 hwl gL_law_X2_init rfl rfl rfl (hts (.initialized RX2) (by decide +kernel)) (hts (.methodLink RL 58 yX2_init) (by decide +kernel)) (hts (.instanceMethod yX2_init) (by decide +kernel)) rfl (by decide +kernel) ⟨Nat.le_of_ble_eq_true rfl, Nat.le_of_ble_eq_true rfl⟩) lnkN_b (fun U hU hW => va_Nw.warmM hW hlnk) hml hl.1 hK hP hD hS hA rfl rfl rfl rfl rfl rfl rfl (Nat.le_of_ble_eq_true rfl) ⟨Nat.le_of_ble_eq_true rfl, Nat.le_of_ble_eq_true rfl⟩ dL_law_4 (fun z H locs hP hD hS => ?_)
  obtain ⟨z1, z2, z3, z4, z5, z6, z7, z8, z9, z10, z11, z12, z13⟩ := z
  obtain ⟨ad, had⟩ : ∃ ad : Nat → Nat, ad = fun k => ([h, z1, z2, z3, z4, z5, z6, z7, z8, z9, z10, z11, z12, z13] : List Nat).getD k 0 := ⟨_, rfl⟩
  have hW0 : ([] : va_W) ++ ((OBo cyI h z1 z2 z3 z7 z11 (fun _ => 0) (fun _ => 0)) ++ ((CBc cyI cyZ z3 z4 z5 z6 cb_new) ++ ((CBc cyI cyZ z7 z8 z9 z10 cb_new) ++ (LAc cyI cyZ z11 z12 z13 la_new)))) = wOo cyI cyZ ad (fun _ => 0) (fun _ => 0) cb_new cb_new la_new := by
    rw [had]
    rfl
  have hP : va_P D vwCl (wOo cyI cyZ ad (fun _ => 0) (fun _ => 0) cb_new cb_new la_new) H := by
    rw [← hW0]
    exact hP
  have hD : va_D (fun q : Nat => s.heap.size ≤ q) (wOo cyI cyZ ad (fun _ => 0) (fun _ => 0) cb_new cb_new la_new) := by
    rw [← hW0]
    exact hD
  have hh : ad 0 = h := by
    rw [had]
    rfl
  refine lv_astore_n (lv' := [(1, .ref h), (0, .ref b)]) hx hb dL_law_7 rfl hl (by decide) rfl (fun ls hl => ?_)
  refine lv_bipush (v := nI 64) hx hb dL_law_8 (by decide) ?_
  refine mq_newa (atype := .int) (ty := .int) (a0 := (64, .inl (fun _ => 0))) (N' := 64) hx hb (hts (.arrayClass .int) (by decide +kernel)) rfl hK hP hD hS hA 0 rfl (fun _ h9 => h9) (fun _ => rfl) (by decide) (nI_clamp (Nat.le_of_ble_eq_true rfl)) (Nat.le_of_ble_eq_true rfl) (Nat.le_of_ble_eq_true rfl) (Nat.le_of_ble_eq_true rfl) dL_law_10 (fun qa H hP hD hS => ?_)
  refine lv_astore_n (lv' := [(2, .ref qa), (1, .ref h), (0, .ref b)]) hx hb dL_law_12 rfl hl (by decide) rfl (fun ls hl => ?_)
  refine lv_iconst (v := nI 1) hx hb dL_law_13 (by decide) ?_
  refine lv_istore_n (lv' := [(3, .int (nI 1)), (2, .ref qa), (1, .ref h), (0, .ref b)]) hx hb dL_law_14 rfl hl (by decide) rfl (fun ls hl => ?_)
  refine lv_iconst (v := nI 0) hx hb dL_law_15 (by decide) ?_
  refine lv_istore (lv' := [(4, .int (nI 0)), (3, .int (nI 1)), (2, .ref qa), (1, .ref h), (0, .ref b)]) hx hb dL_law_16 hl (by decide) rfl (fun ls hl => ?_)
  have hl : lv_has ls 13 (lvH b (ad 0) qa 0) := by
    rw [hh]
    exact lv_sub hl [4, 3, 2, 1, 0] rfl
  refine W.widen (k := 152) (n := 4085) (Nat.le_of_ble_eq_true rfl) (Nat.le_of_ble_eq_true rfl) ?_
  refine law_loop (L := L) (xs := xs) ⟨hx, hb, hown, hwl, hml, hK, hA, hX, hbl, hbA, hL⟩ ⟨Nat.le_refl _, Nat.le_refl _⟩ (fun H locs ls hS => ?_) 150 0 rfl H _ ls _ _ _ _ _ linv_new hP hD hS hl
  have hw := lw_ret (p := p) (l := l) (e := e) (s := s) (m := m) (below := below) (meth := meth) (c := c) (b := b) hx hb hrt hlk (pc := 713) (H := H) (ls := ls) dL_law_713
  exact W.forget (locs := []) (L := locs) (fun q hq => hS.2.2 q hq) hw

/-! the start: what the tables give, both made, the loop -/
theorem arr_known {args : Array Value} {s : State} {ty : FieldType} (h : (Cond.arrayClass ty).before args s = true) : ∃ cA : ClassId, ArrOfT s cA ty ∧ s.vm.findClass ("[" ++ ty.toString) = some cA := by
  obtain ⟨cA, kA, comp, hfind, hk, hkind⟩ := Cond.arrayClass_spec (args := args) (first := s) (o := none) (s := s) (idx := []) h
  exact ⟨cA, fun n z => ⟨fun k h => (by cases h), kA, hk, comp, hkind⟩, hfind⟩
theorem lw_TXL {s : State} {b : Nat} (hts : ∀ w ∈ lw_tbl, w.before #[Value.ref b] s = true) (hgv : (Jvm.Cond.and given_1 narrow_1).before #[Value.ref b] s = true) : TXL (fun q => s.heap.size ≤ q) s := by
  have hg := flat_of_before _ hgv
  have hA : ∀ a : Nat, a < s.heap.size → ¬ (fun q : Nat => s.heap.size ≤ q) a := fun a ha h => by
    have h : s.heap.size ≤ a := h
    omega
  have hx : ∀ (k : Nat) (tx : String), Cond.stringRef RX2 k tx ∈ lw_tbl → Cond.exactly (.string RX2 k) "java/lang/String" ∈ flatC (Jvm.Cond.and given_1 narrow_1) → ∃ a : Nat, vk_R RX2 k tx a s := by
    intro k tx h1 h2
    obtain ⟨a, c, cA, kA, q1, -⟩ := Cond.exactly_spec (args := #[Value.ref b]) (first := s) (o := none) (s := s) (idx := []) (t := .string RX2 k) (cls := "java/lang/String") (hg _ h2)
    exact ⟨a, vk_R.of (hts _ h1) q1⟩
  refine ⟨⟨vx_Zqof (hts _ (by decide +kernel)) (hts _ (by decide +kernel)) (hg _ (by decide +kernel)) hA, vx_Zqof (hts _ (by decide +kernel)) (hts _ (by decide +kernel)) (hg _ (by decide +kernel)) hA, ?_, va_Nw.of rfl (hts _ (by decide +kernel)), va_Nw.of rfl (hts _ (by decide +kernel)), va_Nw.of rfl (hts _ (by decide +kernel)), va_Nw.of rfl (hts _ (by decide +kernel)), va_Nw.of rfl (hts _ (by decide +kernel)), va_Nw.of rfl (hts _ (by decide +kernel))⟩, va_Nc.of (hg _ (by decide +kernel)), va_Nc.of (hg _ (by decide +kernel))⟩
  intro q hq
  have hq : q = (56, "no such walk") ∨ q = (92, "the set is empty") ∨ q = (109, "no line of that age on the bench") ∨ q = (161, "no such word") ∨ q = (163, "no such line") ∨ q = (165, "no such set") ∨ q = (167, "no such size") := by
    unfold xTexts at hq
    simpa using hq
  rcases hq with rfl | rfl | rfl | rfl | rfl | rfl | rfl
  · exact hx _ _ (by decide +kernel) (by decide +kernel)
  · exact hx _ _ (by decide +kernel) (by decide +kernel)
  · exact hx _ _ (by decide +kernel) (by decide +kernel)
  · exact hx _ _ (by decide +kernel) (by decide +kernel)
  · exact hx _ _ (by decide +kernel) (by decide +kernel)
  · exact hx _ _ (by decide +kernel) (by decide +kernel)
  · exact hx _ _ (by decide +kernel) (by decide +kernel)
theorem lw_K {s : State} {args : Array Value} (hts : ∀ w ∈ lw_tbl, w.before args s = true) : ∃ (D : va_G) (cyI cyZ cyJ : ClassId), va_K D vwCl (T3 cyI cyZ cyJ) s := by
  obtain ⟨c0, i0, h0⟩ := u_known hts inX0 (hts (.instantiable RX0 11) (by decide +kernel))
  obtain ⟨c1, i1, h1⟩ := u_known hts inX1 (hts (.instantiable RX1 4) (by decide +kernel))
  obtain ⟨c2, i2, h2⟩ := u_known hts inX2 (hts (.instantiable RX2 5) (by decide +kernel))
  obtain ⟨c3, i3, h3⟩ := u_known hts inX3 (hts (.instantiable RX3 16) (by decide +kernel))
  obtain ⟨cI, a1, a2⟩ := arr_known (hts (.arrayClass .int) (by decide +kernel))
  obtain ⟨cZ, b1, b2⟩ := arr_known (hts (.arrayClass .boolean) (by decide +kernel))
  obtain ⟨cJ, d1, d2⟩ := arr_known (hts (.arrayClass .long) (by decide +kernel))
  refine ⟨(fun k => ([c0, c1, c2, c3] : List ClassId).getD k c0, fun k => ([i0, i1, i2, i3] : List (Nat → Nat)).getD k i0), cI, cZ, cJ, fun c q hq => ?_, fun k q hq => ?_⟩
  · match c, hq with
    | 0, hq => cases hq; exact h0
    | 1, hq => cases hq; exact h1
    | 2, hq => cases hq; exact h2
    | 3, hq => cases hq; exact h3
    | k + 4, hq => cases hq
  · match k, hq with
    | 0, hq => cases hq; exact ⟨a1, a2⟩
    | 1, hq => cases hq; exact ⟨b1, b2⟩
    | 2, hq => cases hq; exact ⟨d1, d2⟩
    | k + 3, hq => cases hq
set_option maxRecDepth 100000 in
set_option maxHeartbeats 4000000 in
theorem whole_start {p : Program} {e : Env} {s : State} {m : MethodId} {below : List Frame} {meth : Method} {c : Code} (l : Launch) (hflags : l.flags = flags0) {b L : Nat} {xs : Nat → Int32} (hL : L ≤ 2048) (C0 : lw_At p s m meth c b L xs) : W p l e room_1 s m #[Value.ref b] below meth c s.heap [] 0 0 (lw_Z below #[Value.ref b] s) (entryFrame m ([Value.ref b] : List Value).toArray 7) := by
  obtain ⟨hx, hb, hrt, hml, hown, hts, hX, hbl, hlk, hgv⟩ := C0
  have hst : l.stackTraces = false := by
    unfold Launch.stackTraces
    rw [hflags]
    decide +kernel
  have hb : c.code = cL_law := hb
  have hown : s.vm.findClass RL = some m.cls := hown
  have hT := lw_TXL hts hgv
  obtain ⟨D, cyI, cyZ, cyJ, hK⟩ := lw_K hts
  have hwl : ∀ w ∈ wsL_law, w.before #[Value.ref b] s = true := fun w h => hts w (wsL_law_in w h)
  have hA : ∀ q : Nat, s.heap.size ≤ q → (fun q : Nat => s.heap.size ≤ q) q := fun q h => h
  have hbA : ¬ (fun q : Nat => s.heap.size ≤ q) b := fun h => by
    have h : s.heap.size ≤ b := h
    omega
  have hlnk : lnkN s := va_Nw.of rfl (hts (.methodLinkNest RX2 30 yX1_init RX2) (by decide +kernel))
  have hl := lv_entry [Value.ref b] (n := 7) (Nat.le_of_ble_eq_true rfl)
  rw [lg_entry_eq]
  have hl : lv_has _ 7 [(0, .ref b)] := hl
  have hP : va_P D vwCl [] s.heap := fun k q h => by cases h
  have hD : va_D (fun q : Nat => s.heap.size ≤ q) ([] : va_W) := ⟨fun i j p q hp => (by cases hp), fun k q h => (by cases h)⟩
  have hS : va_S (fun q : Nat => s.heap.size ≤ q) s.heap s.heap [] := va_S.rf
  refine va_new (ci := 2) (fs := [.null, .null, .null, .null, .null]) (C := RX2) (T := TX2) (N := 5) hx hb hts inX2 tyX2 tyX2_ok hown (hts (.classLink RL 8 RX2) (by decide +kernel)) (hts (.instantiable RX2 5) (by decide +kernel)) (hts (.initialized RX2) (by decide +kernel)) hK hP hD hS hA rfl (fun j hj => by rcases (show j = 0 ∨ j = 1 ∨ j = 2 ∨ j = 3 ∨ j = 4 by omega) with rfl | rfl | rfl | rfl | rfl <;> rfl) (Nat.le_of_ble_eq_true rfl) (Nat.le_of_ble_eq_true rfl) dL_law_0 (fun h H hP hD hS => ?_)
  refine lv_dup hx hb dL_law_3 rfl ?_
  refine CtN.callI (n := 0) (index := 55) (wc := [(h, .inr (2, [.null, .null, .null, .null, .null]))]) (wr := []) (isC := [0]) (isR := []) (As := []) (rest := [.ref h]) (i_ob l D cyI cyZ cyJ h) ⟨hx, hb, hown, hwl⟩ (cwI 0 hwl gL_law_X2_init rfl rfl rfl (hts (.initialized RX2) (by decide +kernel)) (hts (.methodLink RL 55 yX2_init) (by decide +kernel)) (hts (.instanceMethod yX2_init) (by decide +kernel)) rfl (by decide +kernel) ⟨Nat.le_of_ble_eq_true rfl, Nat.le_of_ble_eq_true rfl⟩) lnkN_b (fun U hU hW => va_Nw.warmM hW hlnk) hml hl.1 hK hP hD hS hA rfl rfl rfl rfl rfl rfl rfl (Nat.le_of_ble_eq_true rfl) ⟨Nat.le_of_ble_eq_true rfl, Nat.le_of_ble_eq_true rfl⟩ dL_law_4 (fun z H locs hP hD hS => ?_)
  obtain ⟨z1, z2, z3, z4, z5, z6, z7, z8, z9, z10, z11, z12, z13⟩ := z
  obtain ⟨ad, had⟩ : ∃ ad : Nat → Nat, ad = fun k => ([h, z1, z2, z3, z4, z5, z6, z7, z8, z9, z10, z11, z12, z13] : List Nat).getD k 0 := ⟨_, rfl⟩
  have hW0 : ([] : va_W) ++ ((OBo cyI h z1 z2 z3 z7 z11 (fun _ => 0) (fun _ => 0)) ++ ((CBc cyI cyZ z3 z4 z5 z6 cb_new) ++ ((CBc cyI cyZ z7 z8 z9 z10 cb_new) ++ (LAc cyI cyZ z11 z12 z13 la_new)))) = wOo cyI cyZ ad (fun _ => 0) (fun _ => 0) cb_new cb_new la_new := by
    rw [had]
    rfl
  have hP : va_P D vwCl (wOo cyI cyZ ad (fun _ => 0) (fun _ => 0) cb_new cb_new la_new) H := by
    rw [← hW0]
    exact hP
  have hD : va_D (fun q : Nat => s.heap.size ≤ q) (wOo cyI cyZ ad (fun _ => 0) (fun _ => 0) cb_new cb_new la_new) := by
    rw [← hW0]
    exact hD
  have hh : ad 0 = h := by
    rw [had]
    rfl
  refine lv_astore_n (lv' := [(1, .ref h), (0, .ref b)]) hx hb dL_law_7 rfl hl (by decide) rfl (fun ls hl => ?_)
  refine va_new (ci := 3) (fs := [.null, .null, .null, .null, .null, .null, .null, .null, .null, .int 0, .int 0, .int 0, .int 0, .null, .int 0, .int 0]) (C := RX3) (T := TX3) (N := 16) hx hb hts inX3 tyX3 tyX3_ok hown (hts (.classLink RL 56 RX3) (by decide +kernel)) (hts (.instantiable RX3 16) (by decide +kernel)) (hts (.initialized RX3) (by decide +kernel)) hK hP hD hS hA rfl (fun j hj => by rcases (show j = 0 ∨ j = 1 ∨ j = 2 ∨ j = 3 ∨ j = 4 ∨ j = 5 ∨ j = 6 ∨ j = 7 ∨ j = 8 ∨ j = 9 ∨ j = 10 ∨ j = 11 ∨ j = 12 ∨ j = 13 ∨ j = 14 ∨ j = 15 by omega) with rfl | rfl | rfl | rfl | rfl | rfl | rfl | rfl | rfl | rfl | rfl | rfl | rfl | rfl | rfl | rfl <;> rfl) (Nat.le_of_ble_eq_true rfl) (Nat.le_of_ble_eq_true rfl) dL_law_8 (fun g H hP hD hS => ?_)
  refine lv_dup hx hb dL_law_11 rfl ?_
  have hlen := wOo_len cyI cyZ ad (fun _ => 0) (fun _ => 0) cb_new cb_new la_new
  generalize hw0 : wOo cyI cyZ ad (fun _ => 0) (fun _ => 0) cb_new cb_new la_new = w0 at hP hD hlen
  have hJ := ctJ_r (wc := [(g, .inr (3, [.null, .null, .null, .null, .null, .null, .null, .null, .null, .int 0, .int 0, .int 0, .int 0, .null, .int 0, .int 0]))]) (wr := w0) (w1 := [(g, .inr (3, []))]) (n := 1) (r := 14) rfl hlen rfl rfl rfl rfl rfl
  refine CtN.callI (n := 0) (index := 58) (wc := [(g, .inr (3, [.null, .null, .null, .null, .null, .null, .null, .null, .null, .int 0, .int 0, .int 0, .int 0, .null, .int 0, .int 0]))]) (wr := w0) (As := []) (rest := [.ref g]) (i_md l D cyI cyZ cyJ g) ⟨hx, hb, hown, hwl⟩ (cwI 0 hwl gL_law_X3_init rfl rfl rfl (hts (.initialized RX3) (by decide +kernel)) (hts (.methodLink RL 58 yX3_init) (by decide +kernel)) (hts (.instanceMethod yX3_init) (by decide +kernel)) rfl (by decide +kernel) ⟨Nat.le_of_ble_eq_true rfl, Nat.le_of_ble_eq_true rfl⟩) noN_b (fun _ _ _ => trivial) hml hl.1 hK hP hD hS hA hJ.1 hJ.2.1 hJ.2.2.1 hJ.2.2.2.1 hJ.2.2.2.2.1 rfl rfl (Nat.le_of_ble_eq_true rfl) ⟨Nat.le_of_ble_eq_true rfl, Nat.le_of_ble_eq_true rfl⟩ dL_law_12 (fun z H locs hP hD hS => ?_)
  obtain ⟨y1, y2, y3, y4, y5, y6, y7, y8, y9, y10⟩ := z
  obtain ⟨ga, hga⟩ : ∃ ga : Nat → Nat, ga = fun k => ([g, y1, y2, y3, y4, y5, y6, y7, y8, y9, y10] : List Nat).getD k 0 := ⟨_, rfl⟩
  have hW1 : MDc cyI g y1 y2 y3 y4 y5 y6 y7 y8 y9 y10 md_new = wMo cyI ga md_new := by
    rw [hga]
    rfl
  have hP : va_P D vwCl (w0 ++ wMo cyI ga md_new) H := by
    rw [← hW1]
    exact hP
  have hD : va_D (fun q : Nat => s.heap.size ≤ q) (w0 ++ wMo cyI ga md_new) := by
    rw [← hW1]
    exact hD
  have hg0 : ga 0 = g := by
    rw [hga]
    rfl
  refine lv_astore_n (lv' := [(2, .ref g), (1, .ref h), (0, .ref b)]) hx hb dL_law_15 rfl hl (by decide) rfl (fun ls hl => ?_)
  refine lv_iconst (v := nI 1) hx hb dL_law_16 (by decide) ?_
  refine mq_newa (atype := .long) (ty := .long) (a0 := (1, .inr (.inl (fun _ => 0)))) (N' := 1) hx hb (hts (.arrayClass .long) (by decide +kernel)) rfl hK hP hD hS hA 2 rfl (fun _ h9 => h9) (fun _ => rfl) (by decide) (nI_clamp (Nat.le_of_ble_eq_true rfl)) (Nat.le_of_ble_eq_true rfl) (Nat.le_of_ble_eq_true rfl) (Nat.le_of_ble_eq_true rfl) dL_law_17 (fun qo H hP hD hS => ?_)
  have hlm := wMo_len cyI ga md_new
  have e0 : w0 ++ wMo cyI ga md_new ++ wQo cyJ qo (fun _ => 0) = w0 ++ (wMo cyI ga md_new ++ wQo cyJ qo (fun _ => 0)) := List.append_assoc _ _ _
  have e1 : wLo cyI cyZ cyJ ad qo (fun _ => 0) (fun _ => 0) cb_new cb_new la_new (fun _ => 0) ++ wMo cyI ga md_new = w0 ++ (wQo cyJ qo (fun _ => 0) ++ wMo cyI ga md_new) := by rw [wLo_eq, hw0, List.append_assoc]
  have hps : (List.range' 0 14 ++ (List.range' 25 1 ++ List.range' 14 11)).map (fun i => (w0 ++ wMo cyI ga md_new ++ wQo cyJ qo (fun _ => 0))[i]?) = (w0 ++ (wQo cyJ qo (fun _ => 0) ++ wMo cyI ga md_new)).map some := by
    rw [e0, List.map_append, List.map_append, List.map_append, List.map_append]
    congr 1
    · have := map_rng [] w0 (wMo cyI ga md_new ++ wQo cyJ qo (fun _ => 0)) 0 rfl
      rw [hlen] at this
      exact this
    · congr 1
      · have := map_rng (w0 ++ wMo cyI ga md_new) (wQo cyJ qo (fun _ => 0)) [] 25 (by rw [List.length_append, hlen, hlm])
        rw [List.append_nil, List.append_assoc] at this
        exact this
      · have := map_rng w0 (wMo cyI ga md_new) (wQo cyJ qo (fun _ => 0)) 14 hlen
        rw [hlm] at this
        exact this
  have hP : va_P D vwCl (wLo cyI cyZ cyJ ad qo (fun _ => 0) (fun _ => 0) cb_new cb_new la_new (fun _ => 0) ++ wMo cyI ga md_new) H := by
    rw [e1]
    exact hP.sub _ (ct_fm hps)
  have hD : va_D (fun q : Nat => s.heap.size ≤ q) (wLo cyI cyZ cyJ ad qo (fun _ => 0) (fun _ => 0) cb_new cb_new la_new (fun _ => 0) ++ wMo cyI ga md_new) := by
    rw [e1]
    exact hD.sub _ rfl hps
  refine lv_astore_n (lv' := [(3, .ref qo), (2, .ref g), (1, .ref h), (0, .ref b)]) hx hb dL_law_19 rfl hl (by decide) rfl (fun ls hl => ?_)
  refine lv_iconst (v := nI 0) hx hb dL_law_20 (by decide) ?_
  refine lv_istore (lv' := [(4, .int (nI 0)), (3, .ref qo), (2, .ref g), (1, .ref h), (0, .ref b)]) hx hb dL_law_21 hl (by decide) rfl (fun ls hl => ?_)
  have hl : lv_has ls 7 (lvL b (ad 0) (ga 0) qo 0) := by
    rw [hh, hg0]
    exact lv_sub hl [4, 3, 2, 1, 0] rfl
  exact law_loop ⟨hx, hb, hown, hwl, hml, hK, hT, hA, hX, hbl, hbA, hL⟩ hst hlk hrt (fun q h => h) 512 0 _ _ (by omega) (by omega) (by omega) (by omega) H _ ls _ _ _ _ _ _ _ sim_new hP hD hS hl

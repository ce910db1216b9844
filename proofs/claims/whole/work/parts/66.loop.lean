/-! the law's loop -/
theorem and31 (x : Int32) : ∃ j : Nat, j < 32 ∧ x &&& 31 = nI j := by
  have h : (x &&& 31).toBitVec.toNat ≤ 31 := by
    rw [Int32.toBitVec_and, BitVec.toNat_and]
    exact Nat.and_le_right
  refine ⟨(x &&& 31).toBitVec.toNat, by omega, ?_⟩
  generalize (x &&& 31) = y at h ⊢
  apply Int32.toBitVec_inj.mp
  show y.toBitVec = BitVec.ofNat 32 y.toBitVec.toNat
  rw [BitVec.ofNat_toNat, BitVec.setWidth_eq]
theorem head_lt {L i : Nat} (hL : L ≤ 2048) (hi : i < 2 ^ 30) : (nI L - nI 4 < nI i) ↔ L < i + 4 := by
  have e : (nI L - nI 4).toInt = (L : Int) - 4 := by
    have h1 : nI L - nI 4 = Int32.ofInt ((L : Int) - 4) := by
      rw [nI_ofInt, nI_ofInt, Int32.ofInt_sub]
      rfl
    rw [h1]
    exact ofInt_toInt (by omega) (by omega)
  rw [Int32.lt_iff_toInt_lt, e, nI_toInt (by omega)]
  omega
section
variable {p : Program} {l : Launch} {e : Env} {s : State} {m : MethodId} {below : List Frame} {meth : Method} {c : Code}
variable {D : va_G} {A : Nat → Prop} {cyI cyZ cyJ : ClassId} {b L : Nat} {xs : Nat → Int32} {ad ga : Nat → Nat} {qo : Nat}
set_option maxRecDepth 10000 in
set_option maxHeartbeats 4000000 in
theorem law_loop (hC : LC p s m #[Value.ref b] meth c D A cyI cyZ cyJ b L xs) (hst : l.stackTraces = false) (hlk : meth.locks = false) (hrt : meth.sig.returnType = ret) (hAs : ∀ q, A q → s.heap.size ≤ q) : ∀ n i cells slots : Nat, L ≤ i + 4 * n → i ≤ 4096 → cells + n ≤ 1057 → slots + 6 * n ≤ 13956 → KN p l e s m #[Value.ref b] below meth c (lw_Z below #[Value.ref b] s) D A cyI cyZ cyJ b ad qo ga i 23 cells slots := by
  intro n
  induction n with
  | zero =>
    intro i cells slots hn hi4 hc1 hc2 H locs ls wr hm u tr la of x hsim hP hD hS hl
    have hC0 := hC
    obtain ⟨hx, hb, hown, hts, hml, hK, hT, hA, hX, hbl, hbA, hL⟩ := hC0
    refine lv_iload hx hb dL_law_23 (lv_at hl 4 rfl) ?_
    refine lv_aload_n hx hb dL_law_25 rfl (lv_at hl 0 rfl) ?_
    refine va_slen hx hb hX hbl hbA hS dL_law_26 ?_
    refine lv_iconst (v := nI 4) hx hb dL_law_27 (by decide) ?_
    refine lv_isub hx hb dL_law_28 ?_
    refine lv_icmp_gt (tgt := 1032) hx hb dL_law_29 (by decide) (fun _ => ?_) (fun h => absurd ((head_lt hL (by omega)).mpr (by omega)) h)
    refine lv_iconst (v := 1) hx hb dL_law_1032 (by decide) ?_
    refine W.widen (show cells ≤ 1057 by omega) (show slots ≤ 13956 by omega) ?_
    have hw := lw_ret (p := p) (l := l) (e := e) (s := s) (m := m) (below := below) (meth := meth) (c := c) (b := b) hx hb hrt hlk (pc := 1033) (H := H) (ls := ls) dL_law_1033
    exact W.forget (locs := []) (L := locs) (fun q hq => hAs _ (hS.2.2 q hq)) hw
  | succ n ih =>
    intro i cells slots hn hi4 hc1 hc2 H locs ls wr hm u tr la of x hsim hP hD hS hl
    have hC0 := hC
    obtain ⟨hx, hb, hown, hts, hml, hK, hT, hA, hX, hbl, hbA, hL⟩ := hC0
    refine lv_iload hx hb dL_law_23 (lv_at hl 4 rfl) ?_
    refine lv_aload_n hx hb dL_law_25 rfl (lv_at hl 0 rfl) ?_
    refine va_slen hx hb hX hbl hbA hS dL_law_26 ?_
    refine lv_iconst (v := nI 4) hx hb dL_law_27 (by decide) ?_
    refine lv_isub hx hb dL_law_28 ?_
    refine lv_icmp_gt (tgt := 1032) hx hb dL_law_29 (by decide) (fun _ => ?_) (fun h => ?_)
    · refine lv_iconst (v := 1) hx hb dL_law_1032 (by decide) ?_
      refine W.widen (show cells ≤ 1057 by omega) (show slots ≤ 13956 by omega) ?_
      have hw := lw_ret (p := p) (l := l) (e := e) (s := s) (m := m) (below := below) (meth := meth) (c := c) (b := b) hx hb hrt hlk (pc := 1033) (H := H) (ls := ls) dL_law_1033
      exact W.forget (locs := []) (L := locs) (fun q hq => hAs _ (hS.2.2 q hq)) hw
    · have hi : i + 3 < L := by
        have : ¬ L < i + 4 := fun q => h ((head_lt hL (by omega)).mpr q)
        omega
      have hcel : cells + 1 ≤ 1057 ∧ slots + 6 ≤ 13956 := ⟨by omega, by omega⟩
      have kk : KN p l e s m #[Value.ref b] below meth c (lw_Z below #[Value.ref b] s) D A cyI cyZ cyJ b ad qo ga i 1026 (cells + 1) (slots + 6) := by
        intro H locs ls wr hm u tr la of x hsim hP hD hS hl
        refine lv_iinc (k := 4) (lv' := [(4, .int (nI (i + 4))), (0, .ref b), (1, .ref (ad 0)), (2, .ref (ga 0)), (3, .ref qo)]) hx hb dL_law_1026 hl rfl (inc4 i) (by decide) rfl (fun ls hl => ?_)
        refine lv_goto (tgt := 23) hx hb dL_law_1029 (by decide) ?_
        exact ih (i + 4) (cells + 1) (slots + 6) (by omega) (by omega) (by omega) (by omega) H locs ls wr hm u tr la of x hsim hP hD hS (lv_sub hl [1, 2, 3, 4, 0] rfl)
      refine lv_aload_n hx hb dL_law_32 rfl (lv_at hl 0 rfl) ?_
      refine lv_iload hx hb dL_law_33 (lv_at hl 4 rfl) ?_
      refine va_sld hx hb hX hbl hbA hS (vp_in_nI (by omega) (by omega)) dL_law_35 ?_
      refine lv_bipush (v := 31) hx hb dL_law_36 (by decide) ?_
      refine lv_iand hx hb dL_law_38 ?_
      obtain ⟨j, hj, he⟩ := and31 (xs (nI i).toNatClampNeg)
      rw [he]
      by_cases hj2 : 22 < j
      · refine lv_tableOut (tgt := 1026) hx hb dL_law_39 (Or.inr (by rw [nI_toInt (by omega)]; omega)) (by decide) ?_
        exact W.widen (Nat.le_succ cells) (Nat.le_add_right slots 6) (kk H locs ls wr hm u tr la of x hsim hP hD hS hl)
      · have hcs : j = 0 ∨ j = 1 ∨ j = 2 ∨ j = 3 ∨ j = 4 ∨ j = 5 ∨ j = 6 ∨ j = 7 ∨ j = 8 ∨ j = 9 ∨ j = 10 ∨ j = 11 ∨ j = 12 ∨ j = 13 ∨ j = 14 ∨ j = 15 ∨ j = 16 ∨ j = 17 ∨ j = 18 ∨ j = 19 ∨ j = 20 ∨ j = 21 ∨ j = 22 := by omega
        rcases hcs with rfl | rfl | rfl | rfl | rfl | rfl | rfl | rfl | rfl | rfl | rfl | rfl | rfl | rfl | rfl | rfl | rfl | rfl | rfl | rfl | rfl | rfl | rfl
        · refine lv_tableIn (off := 105) (tgt := 144) hx hb dL_law_39 (by decide) (by decide) rfl (by decide) ?_
          exact op_read hC hst hi hsim hP hD hS hl hcel kk
        · refine lv_tableIn (off := 161) (tgt := 200) hx hb dL_law_39 (by decide) (by decide) rfl (by decide) ?_
          exact op_write hC hst hi hsim hP hD hS hl hcel kk
        · refine lv_tableIn (off := 229) (tgt := 268) hx hb dL_law_39 (by decide) (by decide) rfl (by decide) ?_
          exact op_walk hC hst hi hsim hP hD hS hl hcel kk
        · refine lv_tableIn (off := 309) (tgt := 348) hx hb dL_law_39 (by decide) (by decide) rfl (by decide) ?_
          exact op_bringHome hC hst hi hsim hP hD hS hl hcel kk
        · refine lv_tableIn (off := 322) (tgt := 361) hx hb dL_law_39 (by decide) (by decide) rfl (by decide) ?_
          exact op_build hC hst hi hsim hP hD hS hl hcel kk
        · refine lv_tableIn (off := 390) (tgt := 429) hx hb dL_law_39 (by decide) (by decide) rfl (by decide) ?_
          exact op_cast hC hst hi hsim hP hD hS hl hcel kk
        · refine lv_tableIn (off := 446) (tgt := 485) hx hb dL_law_39 (by decide) (by decide) rfl (by decide) ?_
          exact op_sets hC hst hi hsim hP hD hS hl hcel kk
        · refine lv_tableIn (off := 459) (tgt := 498) hx hb dL_law_39 (by decide) (by decide) rfl (by decide) ?_
          exact op_places hC hst hi hsim hP hD hS hl hcel kk
        · refine lv_tableIn (off := 472) (tgt := 511) hx hb dL_law_39 (by decide) (by decide) rfl (by decide) ?_
          exact op_lineIn hC hst hi hsim hP hD hS hl hcel kk
        · refine lv_tableIn (off := 528) (tgt := 567) hx hb dL_law_39 (by decide) (by decide) rfl (by decide) ?_
          exact op_sitting hC hst hi hsim hP hD hS hl hcel kk
        · refine lv_tableIn (off := 541) (tgt := 580) hx hb dL_law_39 (by decide) (by decide) rfl (by decide) ?_
          exact op_lineOnBench hC hst hi hsim hP hD hS hl hcel kk
        · refine lv_tableIn (off := 597) (tgt := 636) hx hb dL_law_39 (by decide) (by decide) rfl (by decide) ?_
          exact op_placeOf hC hst hi hsim hP hD hS hl hcel kk
        · refine lv_tableIn (off := 653) (tgt := 692) hx hb dL_law_39 (by decide) (by decide) rfl (by decide) ?_
          exact op_isDirty hC hst hi hsim hP hD hS hl hcel kk
        · refine lv_tableIn (off := 716) (tgt := 755) hx hb dL_law_39 (by decide) (by decide) rfl (by decide) ?_
          exact op_dirty hC hst hi hsim hP hD hS hl hcel kk
        · refine lv_tableIn (off := 729) (tgt := 768) hx hb dL_law_39 (by decide) (by decide) rfl (by decide) ?_
          exact op_atHome hC hst hi hsim hP hD hS hl hcel kk
        · refine lv_tableIn (off := 785) (tgt := 824) hx hb dL_law_39 (by decide) (by decide) rfl (by decide) ?_
          exact op_peek hC hst hi hsim hP hD hS hl hcel kk
        · refine lv_tableIn (off := 841) (tgt := 880) hx hb dL_law_39 (by decide) (by decide) rfl (by decide) ?_
          exact op_hits hC hst hi hsim hP hD hS hl hcel kk
        · refine lv_tableIn (off := 854) (tgt := 893) hx hb dL_law_39 (by decide) (by decide) rfl (by decide) ?_
          exact op_swaps hC hst hi hsim hP hD hS hl hcel kk
        · refine lv_tableIn (off := 867) (tgt := 906) hx hb dL_law_39 (by decide) (by decide) rfl (by decide) ?_
          exact op_misses hC hst hi hsim hP hD hS hl hcel kk
        · refine lv_tableIn (off := 880) (tgt := 919) hx hb dL_law_39 (by decide) (by decide) rfl (by decide) ?_
          exact op_homecomings hC hst hi hsim hP hD hS hl hcel kk
        · refine lv_tableIn (off := 893) (tgt := 932) hx hb dL_law_39 (by decide) (by decide) rfl (by decide) ?_
          exact op_cost hC hst hi hsim hP hD hS hl hcel kk
        · refine lv_tableIn (off := 906) (tgt := 945) hx hb dL_law_39 (by decide) (by decide) rfl (by decide) ?_
          exact op_wouldCost hC hst hi hsim hP hD hS hl hcel kk
        · refine lv_tableIn (off := 974) (tgt := 1013) hx hb dL_law_39 (by decide) (by decide) rfl (by decide) ?_
          exact op_bestPlaces hC hst hi hsim hP hD hS hl hcel kk
end

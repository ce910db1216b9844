/-! the law's branches: what a call of both makes of the worlds -/
def LC (p : Program) (s : State) (m : MethodId) (args : Array Value) (meth : Method) (c : Code) (D : va_G) (A : Nat → Prop) (cyI cyZ cyJ : ClassId) (b L : Nat) (xs : Nat → Int32) : Prop := p.tables.exec = Jvm.exec ∧ c.code = cL_law ∧ s.vm.findClass RL = some m.cls ∧ (∀ w ∈ wsL_law, w.before args s = true) ∧ c.maxLocals = 7 ∧ va_K D vwCl (T3 cyI cyZ cyJ) s ∧ TXL A s ∧ (∀ q : Nat, s.heap.size ≤ q → A q) ∧ va_X b L xs s s.heap ∧ b < s.heap.size ∧ ¬ A b ∧ L ≤ 2048
abbrev lvL (b h g qo i : Nat) : List (Nat × Value) := [(0, .ref b), (1, .ref h), (2, .ref g), (3, .ref qo), (4, .int (nI i))]
def dArg (pc : Nat) (k : Int) : Prop := decode cL_law pc = .ok (.aload_n 0, 1) ∧ decode cL_law (pc + 1) = .ok (.iload 4, 2) ∧ decode cL_law (pc + 3) = .ok (.iconst k, 1) ∧ decode cL_law (pc + 4) = .ok (.iadd, 1) ∧ decode cL_law (pc + 5) = .ok (.iaload, 1)
def dTail (pc : Nat) (back : Int) : Prop := decode cL_law pc = .ok (.aload_n 2, 1) ∧ decode cL_law (pc + 1) = .ok (.invokevirtual 65, 3) ∧ decode cL_law (pc + 4) = .ok (.iload 5, 2) ∧ decode cL_law (pc + 6) = .ok (.if_icmp .eq 5, 3) ∧ decode cL_law (pc + 11) = .ok (.iload 5, 2) ∧ decode cL_law (pc + 13) = .ok (.ifCond .ne 15, 3) ∧ decode cL_law (pc + 16) = .ok (.aload_n 3, 1) ∧ decode cL_law (pc + 17) = .ok (.iconst 0, 1) ∧ decode cL_law (pc + 18) = .ok (.laload, 1) ∧ decode cL_law (pc + 19) = .ok (.iload 6, 2) ∧ decode cL_law (pc + 21) = .ok (.i2l, 1) ∧ decode cL_law (pc + 22) = .ok (.lcmp, 1) ∧ decode cL_law (pc + 23) = .ok (.ifCond .eq 5, 3) ∧ decode cL_law (pc + 28) = .ok (.goto back, 3) ∧ (((pc + 28 : Nat) : Int) + back = ((1026 : Nat) : Int))
def dTailZ (pc : Nat) (back : Int) : Prop := decode cL_law pc = .ok (.aload_n 2, 1) ∧ decode cL_law (pc + 1) = .ok (.invokevirtual 65, 3) ∧ decode cL_law (pc + 4) = .ok (.iload 5, 2) ∧ decode cL_law (pc + 6) = .ok (.if_icmp .eq 5, 3) ∧ decode cL_law (pc + 11) = .ok (.iload 5, 2) ∧ decode cL_law (pc + 13) = .ok (.ifCond .ne 22, 3) ∧ decode cL_law (pc + 16) = .ok (.aload_n 3, 1) ∧ decode cL_law (pc + 17) = .ok (.iconst 0, 1) ∧ decode cL_law (pc + 18) = .ok (.laload, 1) ∧ decode cL_law (pc + 19) = .ok (.iload 6, 2) ∧ decode cL_law (pc + 21) = .ok (.ifCond .eq 7, 3) ∧ decode cL_law (pc + 24) = .ok (.lconst 1, 1) ∧ decode cL_law (pc + 25) = .ok (.goto 4, 3) ∧ decode cL_law (pc + 28) = .ok (.lconst 0, 1) ∧ decode cL_law (pc + 29) = .ok (.lcmp, 1) ∧ decode cL_law (pc + 30) = .ok (.ifCond .eq 5, 3) ∧ decode cL_law (pc + 35) = .ok (.goto back, 3) ∧ (((pc + 35 : Nat) : Int) + back = ((1026 : Nat) : Int))
def md_mt : MDu → Nat := fun (mw, mh, ms, mp, ml, mb, mm, md, mc, mhi, msw, mmi, mhc, ma, mq, mt) => mt
theorem mU_thrown (l : Launch) (D : va_G) (cyI cyZ cyJ : ClassId) (ga : Nat → Nat) (x : MDu) : CtI l yX3_thrown wsX3_thrown rmX3_thrown D (T3 cyI cyZ cyJ) [.ref (ga 0)] (wMo cyI ga x) (nI (md_mt x)) (wMo cyI ga x) := by
  obtain ⟨mw, mh, ms, mp, ml, mb, mm, md, mc, mhi, msw, mmi, mhc, ma, mq, mt⟩ := x
  exact m_thrown l D cyI cyZ cyJ (ga 0) (ga 1) (ga 2) (ga 3) (ga 4) (ga 5) (ga 6) (ga 7) (ga 8) (ga 9) (ga 10) mw mh ms mp ml mb mm md mc mhi msw mmi mhc ma mq mt
/-- may the loop go on at pc with any worlds that belong together -/
def KN (p : Program) (l : Launch) (e : Env) (s : State) (m : MethodId) (args : Array Value) (below : List Frame) (meth : Method) (c : Code) (Q : State → Prop) (D : va_G) (A : Nat → Prop) (cyI cyZ cyJ : ClassId) (b : Nat) (ad : Nat → Nat) (qo : Nat) (ga : Nat → Nat) (i pc cells slots : Nat) : Prop :=
  ∀ (H : Heap) (locs : List Loc) (ls : Array Slot) (wr hm : Nat → Int32) (u tr : CBu) (la : LAu) (of : Nat → Int64) (x : MDu), SimS wr hm u la x → va_P D vwCl (wLo cyI cyZ cyJ ad qo wr hm u tr la of ++ wMo cyI ga x) H → va_D A (wLo cyI cyZ cyJ ad qo wr hm u tr la of ++ wMo cyI ga x) → va_S A s.heap H locs → lv_has ls 7 (lvL b (ad 0) (ga 0) qo i) → W p l e room_1 s m args below meth c H locs cells slots Q (F0 m pc ls [])
section LB
variable {p : Program} {l : Launch} {e : Env} {s : State} {m : MethodId} {args : Array Value} {below : List Frame} {meth : Method} {c : Code} {H : Heap} {locs : List Loc} {cells slots : Nat} {Q : State → Prop}
variable {pc : Nat} {ls : Array Slot} {rest : List Value} {D : va_G} {A : Nat → Prop} {cyI cyZ cyJ : ClassId} {b L : Nat} {xs : Nat → Int32} {ws ws' : va_W} {ad ga : Nat → Nat} {qo i : Nat}
theorem sArg (hC : LC p s m args meth c D A cyI cyZ cyJ b L xs) {k : Nat} {kz : Int} (hd : dArg pc kz) (hk : Int32.ofInt kz = nI k) (hi : i + k < L) {lv : List (Nat × Value)} (hl : lv_has ls 7 lv) (h0 : ls[0]? = some (.val (.ref b))) (h4 : ls[4]? = some (.val (.int (nI i)))) (hS : va_S A s.heap H locs)
    (kk : W p l e room_1 s m args below meth c H locs cells slots Q (F0 m (pc + 6) ls (.int (xs (i + k)) :: rest))) : W p l e room_1 s m args below meth c H locs cells slots Q (F0 m pc ls rest) := by
  obtain ⟨hx, hb, hown, hts, hml, hK, hT, hA, hX, hbl, hbA, hL⟩ := hC
  obtain ⟨d0, d1, d2, d3, d4⟩ := hd
  refine lv_aload_n hx hb d0 rfl h0 ?_
  refine lv_iload hx hb d1 h4 ?_
  refine lv_iconst (v := nI k) hx hb d2 hk ?_
  refine mq_iadd hx hb d3 ?_
  refine va_sld hx hb hX hbl hbA hS (vp_in_nI hi (by omega)) d4 ?_
  rw [nI_clamp (by omega)]
  exact kk
theorem tailI (hC : LC p s m args meth c D A cyI cyZ cyJ b L xs) {back : Int} (hd : dTail pc back) {wr hm : Nat → Int32} {u tr : CBu} {la : LAu} {of : Nat → Int64} {x : MDu} {k : Nat} {r : Int32} (hk : k < 3) (hmt : md_mt x = k) (hans : k = 0 → of 0 = r.toInt64) (hsim : SimS wr hm u la x)
    (hP : va_P D vwCl (wLo cyI cyZ cyJ ad qo wr hm u tr la of ++ wMo cyI ga x) H) (hD : va_D A (wLo cyI cyZ cyJ ad qo wr hm u tr la of ++ wMo cyI ga x)) (hS : va_S A s.heap H locs) (hl : lv_has ls 7 [(6, .int r), (5, .int (nI k)), (0, .ref b), (1, .ref (ad 0)), (2, .ref (ga 0)), (3, .ref qo), (4, .int (nI i))]) (hcel : cells ≤ 1057 ∧ slots ≤ 13956)
    (kk : KN p l e s m args below meth c Q D A cyI cyZ cyJ b ad qo ga i 1026 cells slots) : W p l e room_1 s m args below meth c H locs cells slots Q (F0 m pc ls []) := by
  obtain ⟨hx, hb, hown, hts, hml, hK, hT, hA, hX, hbl, hbA, hL⟩ := hC
  obtain ⟨d0, d1, d4, d6, d11, d13, d16, d17, d18, d19, d21, d22, d23, d28, hbk⟩ := hd
  have hgo : ∀ (H : Heap) (locs : List Loc), va_P D vwCl (wLo cyI cyZ cyJ ad qo wr hm u tr la of ++ wMo cyI ga x) H → va_D A (wLo cyI cyZ cyJ ad qo wr hm u tr la of ++ wMo cyI ga x) → va_S A s.heap H locs → W p l e room_1 s m args below meth c H locs cells slots Q (F0 m (pc + 28) ls []) := by
    intro H locs hP hD hS
    refine lv_goto (tgt := 1026) hx hb d28 hbk ?_
    exact kk H locs ls wr hm u tr la of x hsim hP hD hS (lv_sub hl [2, 3, 4, 5, 6] rfl)
  obtain ⟨fs, hfs⟩ := wMo_h cyI ga x
  have hcall := mU_thrown l D cyI cyZ cyJ ga x
  rw [hmt] at hcall
  refine lv_aload_n hx hb d0 rfl (lv_at hl 4 rfl) ?_
  refine CtI.callV (n := 0) (q0 := 0) (ci := 3) (As := []) (rest := []) (ws' := wLo cyI cyZ cyJ ad qo wr hm u tr la of ++ wMo cyI ga x) hcall ⟨hx, hb, hown, hts⟩ gL_law_X3_thrown rfl ⟨rfl, by decide, by decide, by decide +kernel⟩ ⟨Nat.le_of_ble_eq_true rfl, Nat.le_of_ble_eq_true rfl⟩ ⟨rfl, rfl⟩ hml hl.1 hK hP hD hS hA (ctJ_r (n := 11) (r := 15) (wMo_len _ _ _) (wLo_len _ _ _ _ _ _ _ _ _ _ _) (wMo_len _ _ _) rfl rfl rfl rfl) hfs ⟨rfl, rfl⟩ rfl rfl (Nat.le_of_ble_eq_true rfl) hcel d1 (fun H locs hP hD hS => ?_)
  refine lv_iload hx hb d4 (lv_at hl 1 rfl) ?_
  refine lv_icmp_eq (tgt := pc + 11) hx hb d6 (by omega) (fun _ => ?_) (fun h => absurd rfl h)
  refine lv_iload hx hb d11 (lv_at hl 1 rfl) ?_
  refine mq_nz (tgt := pc + 28) (by omega) hx hb d13 (by omega) (fun _ => hgo H locs hP hD hS) (fun hk0 => ?_)
  refine lv_aload_n hx hb d16 rfl (lv_at hl 5 rfl) ?_
  refine lv_iconst (v := nI 0) hx hb d17 (by decide) ?_
  refine mq_lald (k := 0) hx hb hK hP 14 2 (wLo_q _ _ _ _ _ _ _ _ _ _ _ _) rfl (by decide) (by decide) d18 ?_
  refine lv_iload hx hb d19 (lv_at hl 0 rfl) ?_
  refine lv_i2l (v := of 0) hx hb d21 (hans hk0).symm ?_
  refine mq_lcmp hx hb d22 ?_
  exact lv_if_eq (tgt := pc + 28) hx hb d23 (by omega) (fun _ => hgo H locs hP hD hS) (fun h => absurd rfl h)
theorem tailZ (hC : LC p s m args meth c D A cyI cyZ cyJ b L xs) {back : Int} (hd : dTailZ pc back) {wr hm : Nat → Int32} {u tr : CBu} {la : LAu} {of : Nat → Int64} {x : MDu} {k : Nat} {r : Bool} (hk : k < 3) (hmt : md_mt x = k) (hans : k = 0 → of 0 = if r then 1 else 0) (hsim : SimS wr hm u la x)
    (hP : va_P D vwCl (wLo cyI cyZ cyJ ad qo wr hm u tr la of ++ wMo cyI ga x) H) (hD : va_D A (wLo cyI cyZ cyJ ad qo wr hm u tr la of ++ wMo cyI ga x)) (hS : va_S A s.heap H locs) (hl : lv_has ls 7 [(6, .int (bI r)), (5, .int (nI k)), (0, .ref b), (1, .ref (ad 0)), (2, .ref (ga 0)), (3, .ref qo), (4, .int (nI i))]) (hcel : cells ≤ 1057 ∧ slots ≤ 13956)
    (kk : KN p l e s m args below meth c Q D A cyI cyZ cyJ b ad qo ga i 1026 cells slots) : W p l e room_1 s m args below meth c H locs cells slots Q (F0 m pc ls []) := by
  obtain ⟨hx, hb, hown, hts, hml, hK, hT, hA, hX, hbl, hbA, hL⟩ := hC
  obtain ⟨d0, d1, d4, d6, d11, d13, d16, d17, d18, d19, d21, d24, d25, d28, d29, d30, d35, hbk⟩ := hd
  have hgo : ∀ (H : Heap) (locs : List Loc), va_P D vwCl (wLo cyI cyZ cyJ ad qo wr hm u tr la of ++ wMo cyI ga x) H → va_D A (wLo cyI cyZ cyJ ad qo wr hm u tr la of ++ wMo cyI ga x) → va_S A s.heap H locs → W p l e room_1 s m args below meth c H locs cells slots Q (F0 m (pc + 35) ls []) := by
    intro H locs hP hD hS
    refine lv_goto (tgt := 1026) hx hb d35 hbk ?_
    exact kk H locs ls wr hm u tr la of x hsim hP hD hS (lv_sub hl [2, 3, 4, 5, 6] rfl)
  obtain ⟨fs, hfs⟩ := wMo_h cyI ga x
  have hcall := mU_thrown l D cyI cyZ cyJ ga x
  rw [hmt] at hcall
  refine lv_aload_n hx hb d0 rfl (lv_at hl 4 rfl) ?_
  refine CtI.callV (n := 0) (q0 := 0) (ci := 3) (As := []) (rest := []) (ws' := wLo cyI cyZ cyJ ad qo wr hm u tr la of ++ wMo cyI ga x) hcall ⟨hx, hb, hown, hts⟩ gL_law_X3_thrown rfl ⟨rfl, by decide, by decide, by decide +kernel⟩ ⟨Nat.le_of_ble_eq_true rfl, Nat.le_of_ble_eq_true rfl⟩ ⟨rfl, rfl⟩ hml hl.1 hK hP hD hS hA (ctJ_r (n := 11) (r := 15) (wMo_len _ _ _) (wLo_len _ _ _ _ _ _ _ _ _ _ _) (wMo_len _ _ _) rfl rfl rfl rfl) hfs ⟨rfl, rfl⟩ rfl rfl (Nat.le_of_ble_eq_true rfl) hcel d1 (fun H locs hP hD hS => ?_)
  refine lv_iload hx hb d4 (lv_at hl 1 rfl) ?_
  refine lv_icmp_eq (tgt := pc + 11) hx hb d6 (by omega) (fun _ => ?_) (fun h => absurd rfl h)
  refine lv_iload hx hb d11 (lv_at hl 1 rfl) ?_
  refine mq_nz (tgt := pc + 35) (by omega) hx hb d13 (by omega) (fun _ => hgo H locs hP hD hS) (fun hk0 => ?_)
  refine lv_aload_n hx hb d16 rfl (lv_at hl 5 rfl) ?_
  refine lv_iconst (v := nI 0) hx hb d17 (by decide) ?_
  refine mq_lald (k := 0) hx hb hK hP 14 2 (wLo_q _ _ _ _ _ _ _ _ _ _ _ _) rfl (by decide) (by decide) d18 ?_
  refine lv_iload hx hb d19 (lv_at hl 0 rfl) ?_
  refine mq_bz (tgt := pc + 28) hx hb d21 (by omega) (fun hr => ?_) (fun hr => ?_)
  · refine lv_lconst (v := of 0) hx hb d28 (by rw [hans hk0, hr]; rfl) ?_
    refine mq_lcmp hx hb d29 ?_
    exact lv_if_eq (tgt := pc + 35) hx hb d30 (by omega) (fun _ => hgo H locs hP hD hS) (fun h => absurd rfl h)
  · refine lv_lconst (v := of 0) hx hb d24 (by rw [hans hk0, hr]; rfl) ?_
    refine lv_goto (tgt := pc + 29) hx hb d25 (by omega) ?_
    refine mq_lcmp hx hb d29 ?_
    exact lv_if_eq (tgt := pc + 35) hx hb d30 (by omega) (fun _ => hgo H locs hP hD hS) (fun h => absurd rfl h)
end LB

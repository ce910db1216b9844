/-! the law's branches by the number of their words -/
def dBr1 (pc iS iM : Nat) : Prop := decode cL_law pc = .ok (.aload_n 1, 1) ∧ dArg (pc + 1) 1 ∧ decode cL_law (pc + 7) = .ok (.aload_n 3, 1) ∧ decode cL_law (pc + 8) = .ok (.invokestatic iS, 3) ∧ decode cL_law (pc + 11) = .ok (.istore 5, 2) ∧ decode cL_law (pc + 13) = .ok (.aload_n 2, 1) ∧ dArg (pc + 14) 1 ∧ decode cL_law (pc + 20) = .ok (.invokevirtual iM, 3) ∧ decode cL_law (pc + 23) = .ok (.istore 6, 2)
section
variable {p : Program} {l : Launch} {e : Env} {s : State} {m : MethodId} {args : Array Value} {below : List Frame} {meth : Method} {c : Code} {H : Heap} {locs : List Loc} {cells slots : Nat} {Q : State → Prop}
variable {pc : Nat} {ls : Array Slot} {rest : List Value} {D : va_G} {A : Nat → Prop} {cyI cyZ cyJ : ClassId} {b L : Nat} {xs : Nat → Int32} {ad ga : Nat → Nat} {qo i : Nat}
theorem br1 (hC : LC p s m args meth c D A cyI cyZ cyJ b L xs) {iS iM : Nat} (hd : dBr1 pc iS iM) (hi : i + 3 < L)
    {yL : MethodName} {wsL wsL0 : List Cond} {rmL : Room} {byL : ByteArray} {mxL : Nat} {rtL : Option FieldType} {hhL : List (Nat × Nat × Nat × Nat)} (hGL : GoodIn wsL_law (va_wsS RL iS yL wsL)) (hwL : wsL = Cond.codeWith yL byL mxL rtL hhL :: wsL0) (hdL : yL.cls ≠ "java/lang/invoke/MethodHandle" ∧ yL.cls ≠ "java/lang/invoke/VarHandle" ∧ (parseMethodDescriptor yL.desc).map (fun d => d.parameters.length) = some 3) (hRL : rmL.frames + 1 ≤ room_1.frames ∧ 8 + (mxL + 11) + rmL.locals ≤ room_1.locals) (hrL : rmL.cells = 1 ∧ rmL.slots = 6)
    {yM : MethodName} {wsM wsM0 : List Cond} {rmM : Room} {byM : ByteArray} {mxM : Nat} {rtM : Option FieldType} (hGM : GoodIn wsL_law (wsV RL iM RX3 yM wsM)) (hwM : wsM = Cond.code yM byM mxM rtM :: wsM0) (hdM : yM.cls = RX3 ∧ yM.cls ≠ "java/lang/invoke/MethodHandle" ∧ yM.cls ≠ "java/lang/invoke/VarHandle" ∧ (parseMethodDescriptor yM.desc).map (fun d => d.parameters.length) = some 1) (hRM : rmM.frames + 1 ≤ room_1.frames ∧ 8 + (mxM + 11) + rmM.locals ≤ room_1.locals) (hrM : rmM.cells = 0 ∧ rmM.slots = 0)
    {wr hm wr' hm' : Nat → Int32} {u tr u' tr' : CBu} {la la' : LAu} {of of' : Nat → Int64} {x x' : MDu} {k : Nat} {r : Int32}
    (hL : CtL l yL wsL rmL D (T3 cyI cyZ cyJ) [.ref (ad 0), .int (xs (i + 1)), .ref qo] (wLo cyI cyZ cyJ ad qo wr hm u tr la of) (nI k) (wLo cyI cyZ cyJ ad qo wr' hm' u' tr' la' of'))
    (hM : CtI l yM wsM rmM D (T3 cyI cyZ cyJ) [.ref (ga 0), .int (xs (i + 1))] (wMo cyI ga x) r (wMo cyI ga x'))
    (hP : va_P D vwCl (wLo cyI cyZ cyJ ad qo wr hm u tr la of ++ wMo cyI ga x) H) (hD : va_D A (wLo cyI cyZ cyJ ad qo wr hm u tr la of ++ wMo cyI ga x)) (hS : va_S A s.heap H locs) (hl : lv_has ls 7 (lvL b (ad 0) (ga 0) qo i)) (hcel : cells + 1 ≤ 1057 ∧ slots + 6 ≤ 13956)
    (kt : ∀ (H : Heap) (locs : List Loc) (ls : Array Slot), va_P D vwCl (wLo cyI cyZ cyJ ad qo wr' hm' u' tr' la' of' ++ wMo cyI ga x') H → va_D A (wLo cyI cyZ cyJ ad qo wr' hm' u' tr' la' of' ++ wMo cyI ga x') → va_S A s.heap H locs → lv_has ls 7 [(6, .int r), (5, .int (nI k)), (0, .ref b), (1, .ref (ad 0)), (2, .ref (ga 0)), (3, .ref qo), (4, .int (nI i))] → W p l e room_1 s m args below meth c H locs (cells + 1) (slots + 6) Q (F0 m (pc + 25) ls [])) : W p l e room_1 s m args below meth c H locs cells slots Q (F0 m pc ls []) := by
  have hC0 := hC
  obtain ⟨hx, hb, hown, hts, hml, hK, hT, hA, hX, hbl, hbA, hL0⟩ := hC
  obtain ⟨d0, a1, dq, di, d5, dm, b1, dj, d6⟩ := hd
  obtain ⟨fs, hfs⟩ := wMo_h cyI ga x
  refine lv_aload_n hx hb d0 rfl (lv_at hl 1 rfl) ?_
  refine sArg (k := 1) hC0 a1 (by decide) (by omega) hl (lv_at hl 0 rfl) (lv_at hl 4 rfl) hS ?_
  refine lv_aload_n hx hb dq rfl (lv_at hl 3 rfl) ?_
  refine CtL.callS (n := 3) (rest := []) (ws' := wLo cyI cyZ cyJ ad qo wr' hm' u' tr' la' of' ++ wMo cyI ga x) hL ⟨hx, hb, hown, hts⟩ hGL hwL hdL hRL hrL hml hl.1 hT hK hP hD hS hA (ctJ_l (n := 15) (r := 11) (wLo_len _ _ _ _ _ _ _ _ _ _ _) (wMo_len _ _ _) (wLo_len _ _ _ _ _ _ _ _ _ _ _) rfl rfl rfl rfl) rfl rfl (Nat.le_of_ble_eq_true rfl) hcel di (fun H locs hP hD hS => ?_)
  refine lv_istore (lv' := [(5, .int (nI k)), (0, .ref b), (1, .ref (ad 0)), (2, .ref (ga 0)), (3, .ref qo), (4, .int (nI i))]) hx hb d5 hl (by decide) rfl (fun ls hl => ?_)
  refine lv_aload_n hx hb dm rfl (lv_at hl 3 rfl) ?_
  refine sArg (k := 1) hC0 b1 (by decide) (by omega) hl (lv_at hl 1 rfl) (lv_at hl 5 rfl) hS ?_
  refine CtI.callV (n := 1) (q0 := 0) (ci := 3) (rest := []) (ws' := wLo cyI cyZ cyJ ad qo wr' hm' u' tr' la' of' ++ wMo cyI ga x') hM ⟨hx, hb, hown, hts⟩ hGM hwM hdM hRM hrM hml hl.1 hK hP hD hS hA (ctJ_r (n := 11) (r := 15) (wMo_len _ _ _) (wLo_len _ _ _ _ _ _ _ _ _ _ _) (wMo_len _ _ _) rfl rfl rfl rfl) hfs ⟨rfl, rfl⟩ rfl rfl (Nat.le_of_ble_eq_true rfl) hcel dj (fun H locs hP hD hS => ?_)
  refine lv_istore (lv' := [(6, .int r), (5, .int (nI k)), (0, .ref b), (1, .ref (ad 0)), (2, .ref (ga 0)), (3, .ref qo), (4, .int (nI i))]) hx hb d6 hl (by decide) rfl (fun ls hl => ?_)
  exact kt H locs ls hP hD hS hl
end
def dBr2 (pc iS iM : Nat) : Prop := decode cL_law pc = .ok (.aload_n 1, 1) ∧ dArg (pc + 1) 1 ∧ dArg (pc + 7) 2 ∧ decode cL_law (pc + 13) = .ok (.aload_n 3, 1) ∧ decode cL_law (pc + 14) = .ok (.invokestatic iS, 3) ∧ decode cL_law (pc + 17) = .ok (.istore 5, 2) ∧ decode cL_law (pc + 19) = .ok (.aload_n 2, 1) ∧ dArg (pc + 20) 1 ∧ dArg (pc + 26) 2 ∧ decode cL_law (pc + 32) = .ok (.invokevirtual iM, 3) ∧ decode cL_law (pc + 35) = .ok (.istore 6, 2)
section
variable {p : Program} {l : Launch} {e : Env} {s : State} {m : MethodId} {args : Array Value} {below : List Frame} {meth : Method} {c : Code} {H : Heap} {locs : List Loc} {cells slots : Nat} {Q : State → Prop}
variable {pc : Nat} {ls : Array Slot} {rest : List Value} {D : va_G} {A : Nat → Prop} {cyI cyZ cyJ : ClassId} {b L : Nat} {xs : Nat → Int32} {ad ga : Nat → Nat} {qo i : Nat}
theorem br2 (hC : LC p s m args meth c D A cyI cyZ cyJ b L xs) {iS iM : Nat} (hd : dBr2 pc iS iM) (hi : i + 3 < L)
    {yL : MethodName} {wsL wsL0 : List Cond} {rmL : Room} {byL : ByteArray} {mxL : Nat} {rtL : Option FieldType} {hhL : List (Nat × Nat × Nat × Nat)} (hGL : GoodIn wsL_law (va_wsS RL iS yL wsL)) (hwL : wsL = Cond.codeWith yL byL mxL rtL hhL :: wsL0) (hdL : yL.cls ≠ "java/lang/invoke/MethodHandle" ∧ yL.cls ≠ "java/lang/invoke/VarHandle" ∧ (parseMethodDescriptor yL.desc).map (fun d => d.parameters.length) = some 4) (hRL : rmL.frames + 1 ≤ room_1.frames ∧ 8 + (mxL + 11) + rmL.locals ≤ room_1.locals) (hrL : rmL.cells = 1 ∧ rmL.slots = 6)
    {yM : MethodName} {wsM wsM0 : List Cond} {rmM : Room} {byM : ByteArray} {mxM : Nat} {rtM : Option FieldType} (hGM : GoodIn wsL_law (wsV RL iM RX3 yM wsM)) (hwM : wsM = Cond.code yM byM mxM rtM :: wsM0) (hdM : yM.cls = RX3 ∧ yM.cls ≠ "java/lang/invoke/MethodHandle" ∧ yM.cls ≠ "java/lang/invoke/VarHandle" ∧ (parseMethodDescriptor yM.desc).map (fun d => d.parameters.length) = some 2) (hRM : rmM.frames + 1 ≤ room_1.frames ∧ 8 + (mxM + 11) + rmM.locals ≤ room_1.locals) (hrM : rmM.cells = 0 ∧ rmM.slots = 0)
    {wr hm wr' hm' : Nat → Int32} {u tr u' tr' : CBu} {la la' : LAu} {of of' : Nat → Int64} {x x' : MDu} {k : Nat} {r : Int32}
    (hL : CtL l yL wsL rmL D (T3 cyI cyZ cyJ) [.ref (ad 0), .int (xs (i + 1)), .int (xs (i + 2)), .ref qo] (wLo cyI cyZ cyJ ad qo wr hm u tr la of) (nI k) (wLo cyI cyZ cyJ ad qo wr' hm' u' tr' la' of'))
    (hM : CtI l yM wsM rmM D (T3 cyI cyZ cyJ) [.ref (ga 0), .int (xs (i + 1)), .int (xs (i + 2))] (wMo cyI ga x) r (wMo cyI ga x'))
    (hP : va_P D vwCl (wLo cyI cyZ cyJ ad qo wr hm u tr la of ++ wMo cyI ga x) H) (hD : va_D A (wLo cyI cyZ cyJ ad qo wr hm u tr la of ++ wMo cyI ga x)) (hS : va_S A s.heap H locs) (hl : lv_has ls 7 (lvL b (ad 0) (ga 0) qo i)) (hcel : cells + 1 ≤ 1057 ∧ slots + 6 ≤ 13956)
    (kt : ∀ (H : Heap) (locs : List Loc) (ls : Array Slot), va_P D vwCl (wLo cyI cyZ cyJ ad qo wr' hm' u' tr' la' of' ++ wMo cyI ga x') H → va_D A (wLo cyI cyZ cyJ ad qo wr' hm' u' tr' la' of' ++ wMo cyI ga x') → va_S A s.heap H locs → lv_has ls 7 [(6, .int r), (5, .int (nI k)), (0, .ref b), (1, .ref (ad 0)), (2, .ref (ga 0)), (3, .ref qo), (4, .int (nI i))] → W p l e room_1 s m args below meth c H locs (cells + 1) (slots + 6) Q (F0 m (pc + 37) ls [])) : W p l e room_1 s m args below meth c H locs cells slots Q (F0 m pc ls []) := by
  have hC0 := hC
  obtain ⟨hx, hb, hown, hts, hml, hK, hT, hA, hX, hbl, hbA, hL0⟩ := hC
  obtain ⟨d0, a1, a2, dq, di, d5, dm, b1, b2, dj, d6⟩ := hd
  obtain ⟨fs, hfs⟩ := wMo_h cyI ga x
  refine lv_aload_n hx hb d0 rfl (lv_at hl 1 rfl) ?_
  refine sArg (k := 1) hC0 a1 (by decide) (by omega) hl (lv_at hl 0 rfl) (lv_at hl 4 rfl) hS ?_
  refine sArg (k := 2) hC0 a2 (by decide) (by omega) hl (lv_at hl 0 rfl) (lv_at hl 4 rfl) hS ?_
  refine lv_aload_n hx hb dq rfl (lv_at hl 3 rfl) ?_
  refine CtL.callS (n := 4) (rest := []) (ws' := wLo cyI cyZ cyJ ad qo wr' hm' u' tr' la' of' ++ wMo cyI ga x) hL ⟨hx, hb, hown, hts⟩ hGL hwL hdL hRL hrL hml hl.1 hT hK hP hD hS hA (ctJ_l (n := 15) (r := 11) (wLo_len _ _ _ _ _ _ _ _ _ _ _) (wMo_len _ _ _) (wLo_len _ _ _ _ _ _ _ _ _ _ _) rfl rfl rfl rfl) rfl rfl (Nat.le_of_ble_eq_true rfl) hcel di (fun H locs hP hD hS => ?_)
  refine lv_istore (lv' := [(5, .int (nI k)), (0, .ref b), (1, .ref (ad 0)), (2, .ref (ga 0)), (3, .ref qo), (4, .int (nI i))]) hx hb d5 hl (by decide) rfl (fun ls hl => ?_)
  refine lv_aload_n hx hb dm rfl (lv_at hl 3 rfl) ?_
  refine sArg (k := 1) hC0 b1 (by decide) (by omega) hl (lv_at hl 1 rfl) (lv_at hl 5 rfl) hS ?_
  refine sArg (k := 2) hC0 b2 (by decide) (by omega) hl (lv_at hl 1 rfl) (lv_at hl 5 rfl) hS ?_
  refine CtI.callV (n := 2) (q0 := 0) (ci := 3) (rest := []) (ws' := wLo cyI cyZ cyJ ad qo wr' hm' u' tr' la' of' ++ wMo cyI ga x') hM ⟨hx, hb, hown, hts⟩ hGM hwM hdM hRM hrM hml hl.1 hK hP hD hS hA (ctJ_r (n := 11) (r := 15) (wMo_len _ _ _) (wLo_len _ _ _ _ _ _ _ _ _ _ _) (wMo_len _ _ _) rfl rfl rfl rfl) hfs ⟨rfl, rfl⟩ rfl rfl (Nat.le_of_ble_eq_true rfl) hcel dj (fun H locs hP hD hS => ?_)
  refine lv_istore (lv' := [(6, .int r), (5, .int (nI k)), (0, .ref b), (1, .ref (ad 0)), (2, .ref (ga 0)), (3, .ref qo), (4, .int (nI i))]) hx hb d6 hl (by decide) rfl (fun ls hl => ?_)
  exact kt H locs ls hP hD hS hl
end
def dBr3 (pc iS iM : Nat) : Prop := decode cL_law pc = .ok (.aload_n 1, 1) ∧ dArg (pc + 1) 1 ∧ dArg (pc + 7) 2 ∧ dArg (pc + 13) 3 ∧ decode cL_law (pc + 19) = .ok (.aload_n 3, 1) ∧ decode cL_law (pc + 20) = .ok (.invokestatic iS, 3) ∧ decode cL_law (pc + 23) = .ok (.istore 5, 2) ∧ decode cL_law (pc + 25) = .ok (.aload_n 2, 1) ∧ dArg (pc + 26) 1 ∧ dArg (pc + 32) 2 ∧ dArg (pc + 38) 3 ∧ decode cL_law (pc + 44) = .ok (.invokevirtual iM, 3) ∧ decode cL_law (pc + 47) = .ok (.istore 6, 2)
section
variable {p : Program} {l : Launch} {e : Env} {s : State} {m : MethodId} {args : Array Value} {below : List Frame} {meth : Method} {c : Code} {H : Heap} {locs : List Loc} {cells slots : Nat} {Q : State → Prop}
variable {pc : Nat} {ls : Array Slot} {rest : List Value} {D : va_G} {A : Nat → Prop} {cyI cyZ cyJ : ClassId} {b L : Nat} {xs : Nat → Int32} {ad ga : Nat → Nat} {qo i : Nat}
theorem br3 (hC : LC p s m args meth c D A cyI cyZ cyJ b L xs) {iS iM : Nat} (hd : dBr3 pc iS iM) (hi : i + 3 < L)
    {yL : MethodName} {wsL wsL0 : List Cond} {rmL : Room} {byL : ByteArray} {mxL : Nat} {rtL : Option FieldType} {hhL : List (Nat × Nat × Nat × Nat)} (hGL : GoodIn wsL_law (va_wsS RL iS yL wsL)) (hwL : wsL = Cond.codeWith yL byL mxL rtL hhL :: wsL0) (hdL : yL.cls ≠ "java/lang/invoke/MethodHandle" ∧ yL.cls ≠ "java/lang/invoke/VarHandle" ∧ (parseMethodDescriptor yL.desc).map (fun d => d.parameters.length) = some 5) (hRL : rmL.frames + 1 ≤ room_1.frames ∧ 8 + (mxL + 11) + rmL.locals ≤ room_1.locals) (hrL : rmL.cells = 1 ∧ rmL.slots = 6)
    {yM : MethodName} {wsM wsM0 : List Cond} {rmM : Room} {byM : ByteArray} {mxM : Nat} {rtM : Option FieldType} (hGM : GoodIn wsL_law (wsV RL iM RX3 yM wsM)) (hwM : wsM = Cond.code yM byM mxM rtM :: wsM0) (hdM : yM.cls = RX3 ∧ yM.cls ≠ "java/lang/invoke/MethodHandle" ∧ yM.cls ≠ "java/lang/invoke/VarHandle" ∧ (parseMethodDescriptor yM.desc).map (fun d => d.parameters.length) = some 3) (hRM : rmM.frames + 1 ≤ room_1.frames ∧ 8 + (mxM + 11) + rmM.locals ≤ room_1.locals) (hrM : rmM.cells = 0 ∧ rmM.slots = 0)
    {wr hm wr' hm' : Nat → Int32} {u tr u' tr' : CBu} {la la' : LAu} {of of' : Nat → Int64} {x x' : MDu} {k : Nat} {r : Int32}
    (hL : CtL l yL wsL rmL D (T3 cyI cyZ cyJ) [.ref (ad 0), .int (xs (i + 1)), .int (xs (i + 2)), .int (xs (i + 3)), .ref qo] (wLo cyI cyZ cyJ ad qo wr hm u tr la of) (nI k) (wLo cyI cyZ cyJ ad qo wr' hm' u' tr' la' of'))
    (hM : CtI l yM wsM rmM D (T3 cyI cyZ cyJ) [.ref (ga 0), .int (xs (i + 1)), .int (xs (i + 2)), .int (xs (i + 3))] (wMo cyI ga x) r (wMo cyI ga x'))
    (hP : va_P D vwCl (wLo cyI cyZ cyJ ad qo wr hm u tr la of ++ wMo cyI ga x) H) (hD : va_D A (wLo cyI cyZ cyJ ad qo wr hm u tr la of ++ wMo cyI ga x)) (hS : va_S A s.heap H locs) (hl : lv_has ls 7 (lvL b (ad 0) (ga 0) qo i)) (hcel : cells + 1 ≤ 1057 ∧ slots + 6 ≤ 13956)
    (kt : ∀ (H : Heap) (locs : List Loc) (ls : Array Slot), va_P D vwCl (wLo cyI cyZ cyJ ad qo wr' hm' u' tr' la' of' ++ wMo cyI ga x') H → va_D A (wLo cyI cyZ cyJ ad qo wr' hm' u' tr' la' of' ++ wMo cyI ga x') → va_S A s.heap H locs → lv_has ls 7 [(6, .int r), (5, .int (nI k)), (0, .ref b), (1, .ref (ad 0)), (2, .ref (ga 0)), (3, .ref qo), (4, .int (nI i))] → W p l e room_1 s m args below meth c H locs (cells + 1) (slots + 6) Q (F0 m (pc + 49) ls [])) : W p l e room_1 s m args below meth c H locs cells slots Q (F0 m pc ls []) := by
  have hC0 := hC
  obtain ⟨hx, hb, hown, hts, hml, hK, hT, hA, hX, hbl, hbA, hL0⟩ := hC
  obtain ⟨d0, a1, a2, a3, dq, di, d5, dm, b1, b2, b3, dj, d6⟩ := hd
  obtain ⟨fs, hfs⟩ := wMo_h cyI ga x
  refine lv_aload_n hx hb d0 rfl (lv_at hl 1 rfl) ?_
  refine sArg (k := 1) hC0 a1 (by decide) (by omega) hl (lv_at hl 0 rfl) (lv_at hl 4 rfl) hS ?_
  refine sArg (k := 2) hC0 a2 (by decide) (by omega) hl (lv_at hl 0 rfl) (lv_at hl 4 rfl) hS ?_
  refine sArg (k := 3) hC0 a3 (by decide) (by omega) hl (lv_at hl 0 rfl) (lv_at hl 4 rfl) hS ?_
  refine lv_aload_n hx hb dq rfl (lv_at hl 3 rfl) ?_
  refine CtL.callS (n := 5) (rest := []) (ws' := wLo cyI cyZ cyJ ad qo wr' hm' u' tr' la' of' ++ wMo cyI ga x) hL ⟨hx, hb, hown, hts⟩ hGL hwL hdL hRL hrL hml hl.1 hT hK hP hD hS hA (ctJ_l (n := 15) (r := 11) (wLo_len _ _ _ _ _ _ _ _ _ _ _) (wMo_len _ _ _) (wLo_len _ _ _ _ _ _ _ _ _ _ _) rfl rfl rfl rfl) rfl rfl (Nat.le_of_ble_eq_true rfl) hcel di (fun H locs hP hD hS => ?_)
  refine lv_istore (lv' := [(5, .int (nI k)), (0, .ref b), (1, .ref (ad 0)), (2, .ref (ga 0)), (3, .ref qo), (4, .int (nI i))]) hx hb d5 hl (by decide) rfl (fun ls hl => ?_)
  refine lv_aload_n hx hb dm rfl (lv_at hl 3 rfl) ?_
  refine sArg (k := 1) hC0 b1 (by decide) (by omega) hl (lv_at hl 1 rfl) (lv_at hl 5 rfl) hS ?_
  refine sArg (k := 2) hC0 b2 (by decide) (by omega) hl (lv_at hl 1 rfl) (lv_at hl 5 rfl) hS ?_
  refine sArg (k := 3) hC0 b3 (by decide) (by omega) hl (lv_at hl 1 rfl) (lv_at hl 5 rfl) hS ?_
  refine CtI.callV (n := 3) (q0 := 0) (ci := 3) (rest := []) (ws' := wLo cyI cyZ cyJ ad qo wr' hm' u' tr' la' of' ++ wMo cyI ga x') hM ⟨hx, hb, hown, hts⟩ hGM hwM hdM hRM hrM hml hl.1 hK hP hD hS hA (ctJ_r (n := 11) (r := 15) (wMo_len _ _ _) (wLo_len _ _ _ _ _ _ _ _ _ _ _) (wMo_len _ _ _) rfl rfl rfl rfl) hfs ⟨rfl, rfl⟩ rfl rfl (Nat.le_of_ble_eq_true rfl) hcel dj (fun H locs hP hD hS => ?_)
  refine lv_istore (lv' := [(6, .int r), (5, .int (nI k)), (0, .ref b), (1, .ref (ad 0)), (2, .ref (ga 0)), (3, .ref qo), (4, .int (nI i))]) hx hb d6 hl (by decide) rfl (fun ls hl => ?_)
  exact kt H locs ls hP hD hS hl
end
def dBrD (pc iX iM : Nat) (back : Int) : Prop := decode cL_law pc = .ok (.aload_n 1, 1) ∧ decode cL_law (pc + 1) = .ok (.invokevirtual iX, 3) ∧ decode cL_law (pc + 4) = .ok (.aload_n 2, 1) ∧ decode cL_law (pc + 5) = .ok (.invokevirtual iM, 3) ∧ decode cL_law (pc + 8) = .ok (.if_icmp .eq back, 3) ∧ (((pc + 8 : Nat) : Int) + back = ((1026 : Nat) : Int))
section
variable {p : Program} {l : Launch} {e : Env} {s : State} {m : MethodId} {args : Array Value} {below : List Frame} {meth : Method} {c : Code} {H : Heap} {locs : List Loc} {cells slots : Nat} {Q : State → Prop}
variable {pc : Nat} {ls : Array Slot} {rest : List Value} {D : va_G} {A : Nat → Prop} {cyI cyZ cyJ : ClassId} {b L : Nat} {xs : Nat → Int32} {ad ga : Nat → Nat} {qo i : Nat}
theorem brD (hC : LC p s m args meth c D A cyI cyZ cyJ b L xs) {iX iM : Nat} {back : Int} (hd : dBrD pc iX iM back)
    {yL : MethodName} {wsL wsL0 : List Cond} {rmL : Room} {byL : ByteArray} {mxL : Nat} {rtL : Option FieldType} (hGL : GoodIn wsL_law (wsV RL iX RX2 yL wsL)) (hwL : wsL = Cond.code yL byL mxL rtL :: wsL0) (hdL : yL.cls = RX2 ∧ yL.cls ≠ "java/lang/invoke/MethodHandle" ∧ yL.cls ≠ "java/lang/invoke/VarHandle" ∧ (parseMethodDescriptor yL.desc).map (fun d => d.parameters.length) = some 0) (hRL : rmL.frames + 1 ≤ room_1.frames ∧ 8 + (mxL + 11) + rmL.locals ≤ room_1.locals) (hrL : rmL.cells = 0 ∧ rmL.slots = 0)
    {yM : MethodName} {wsM wsM0 : List Cond} {rmM : Room} {byM : ByteArray} {mxM : Nat} {rtM : Option FieldType} (hGM : GoodIn wsL_law (wsV RL iM RX3 yM wsM)) (hwM : wsM = Cond.code yM byM mxM rtM :: wsM0) (hdM : yM.cls = RX3 ∧ yM.cls ≠ "java/lang/invoke/MethodHandle" ∧ yM.cls ≠ "java/lang/invoke/VarHandle" ∧ (parseMethodDescriptor yM.desc).map (fun d => d.parameters.length) = some 0) (hRM : rmM.frames + 1 ≤ room_1.frames ∧ 8 + (mxM + 11) + rmM.locals ≤ room_1.locals) (hrM : rmM.cells = 0 ∧ rmM.slots = 0)
    {wr hm wr' hm' : Nat → Int32} {u tr u' tr' : CBu} {la la' : LAu} {of : Nat → Int64} {x x' : MDu} {v r : Int32}
    (hL : CtI l yL wsL rmL D (T3 cyI cyZ cyJ) [.ref (ad 0)] (wOo cyI cyZ ad wr hm u tr la) v (wOo cyI cyZ ad wr' hm' u' tr' la'))
    (hM : CtI l yM wsM rmM D (T3 cyI cyZ cyJ) [.ref (ga 0)] (wMo cyI ga x) r (wMo cyI ga x')) (hv : v = r) (hsim : SimS wr' hm' u' la' x')
    (hP : va_P D vwCl (wLo cyI cyZ cyJ ad qo wr hm u tr la of ++ wMo cyI ga x) H) (hD : va_D A (wLo cyI cyZ cyJ ad qo wr hm u tr la of ++ wMo cyI ga x)) (hS : va_S A s.heap H locs) (hl : lv_has ls 7 (lvL b (ad 0) (ga 0) qo i)) (hcel : cells + 1 ≤ 1057 ∧ slots + 6 ≤ 13956)
    (kk : KN p l e s m args below meth c Q D A cyI cyZ cyJ b ad qo ga i 1026 (cells + 1) (slots + 6)) : W p l e room_1 s m args below meth c H locs cells slots Q (F0 m pc ls []) := by
  refine W.widen (Nat.le_succ cells) (Nat.le_add_right slots 6) ?_
  obtain ⟨hx, hb, hown, hts, hml, hK, hT, hA, hX, hbl, hbA, hL0⟩ := hC
  obtain ⟨d0, d1, d4, d5, d8, hbk⟩ := hd
  obtain ⟨fs, hfs⟩ := wMo_h cyI ga x
  have e1 : wLo cyI cyZ cyJ ad qo wr hm u tr la of ++ wMo cyI ga x = wOo cyI cyZ ad wr hm u tr la ++ (wQo cyJ qo of ++ wMo cyI ga x) := by rw [wLo_eq, List.append_assoc]
  have e2 : wLo cyI cyZ cyJ ad qo wr' hm' u' tr' la' of ++ wMo cyI ga x = wOo cyI cyZ ad wr' hm' u' tr' la' ++ (wQo cyJ qo of ++ wMo cyI ga x) := by rw [wLo_eq, List.append_assoc]
  rw [e1] at hP hD
  refine lv_aload_n hx hb d0 rfl (lv_at hl 1 rfl) ?_
  refine CtI.callV (n := 0) (q0 := 0) (ci := 2) (As := []) (rest := []) (ws' := wOo cyI cyZ ad wr' hm' u' tr' la' ++ (wQo cyJ qo of ++ wMo cyI ga x)) hL ⟨hx, hb, hown, hts⟩ hGL hwL hdL hRL hrL hml hl.1 hK hP hD hS hA (ctJ_l (n := 14) (r := 12) (wOo_len _ _ _ _ _ _ _ _) (by rw [List.length_append, wMo_len]; rfl) (wOo_len _ _ _ _ _ _ _ _) rfl rfl rfl rfl) (wOo_h _ _ _ _ _ _ _ _) ⟨rfl, rfl⟩ rfl rfl (Nat.le_of_ble_eq_true rfl) hcel d1 (fun H locs hP hD hS => ?_)
  rw [← e2] at hP hD
  refine lv_aload_n hx hb d4 rfl (lv_at hl 2 rfl) ?_
  refine CtI.callV (n := 0) (q0 := 0) (ci := 3) (As := []) (rest := [.int v]) (ws' := wLo cyI cyZ cyJ ad qo wr' hm' u' tr' la' of ++ wMo cyI ga x') hM ⟨hx, hb, hown, hts⟩ hGM hwM hdM hRM hrM hml hl.1 hK hP hD hS hA (ctJ_r (n := 11) (r := 15) (wMo_len _ _ _) (wLo_len _ _ _ _ _ _ _ _ _ _ _) (wMo_len _ _ _) rfl rfl rfl rfl) hfs ⟨rfl, rfl⟩ rfl rfl (Nat.le_of_ble_eq_true rfl) hcel d5 (fun H locs hP hD hS => ?_)
  exact lv_icmp_eq (tgt := 1026) hx hb d8 hbk (fun _ => kk H locs ls wr' hm' u' tr' la' of x' hsim hP hD hS hl) (fun h => absurd hv h)
end

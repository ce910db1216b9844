/-! calls that end by a throw: the world is as before, one cell of six slots is new -/
abbrev xIO : String := "java/lang/IndexOutOfBoundsException"
abbrev xIA : String := "java/lang/IllegalArgumentException"
abbrev xIS : String := "java/lang/IllegalStateException"
abbrev xNm : List String := ["java/lang/RuntimeException", "java/lang/Exception"]
def xTexts : List (Nat × String) := [(56, "no such walk"), (92, "the set is empty"), (109, "no line of that age on the bench"), (161, "no such word"), (163, "no such line"), (165, "no such set"), (167, "no such size")]
abbrev xD : List Cond := [.declares (Bundle.initS "java/lang/RuntimeException"), .declares (Bundle.initS "java/lang/Exception"), .declares (Bundle.initS Bundle.tN)]
theorem bad_IO : ∀ w ∈ (vx_atS RX2 111 xIO xNm).filter (fun w => !goodWord w), w ∈ Cond.castable xIO xIO :: xD := by decide +kernel
theorem bad_IA : ∀ w ∈ (vx_atS RX2 58 xIA xNm).filter (fun w => !goodWord w), w ∈ Cond.castable xIA xIA :: xD := by decide +kernel
theorem bad_IS : ∀ w ∈ (vx_atS RX2 94 xIS xNm).filter (fun w => !goodWord w), w ∈ Cond.castable xIS xIS :: xD := by decide +kernel
/-- what a throw needs of the heap and the tables -/
def TX (A : Nat → Prop) (U : State) : Prop := vx_Zq Bundle.tN "UNASSIGNED_STACK" Bundle.steD A U U.heap ∧ vx_Zq Bundle.tN "SUPPRESSED_SENTINEL" Bundle.listD A U U.heap ∧ (∀ q ∈ xTexts, ∃ a : Nat, vk_R RX2 q.1 q.2 a U) ∧ va_Nw (.castable xIO xIO) U ∧ va_Nw (.castable xIA xIA) U ∧ va_Nw (.castable xIS xIS) U ∧ va_Nw (.declares (Bundle.initS "java/lang/RuntimeException")) U ∧ va_Nw (.declares (Bundle.initS "java/lang/Exception")) U ∧ va_Nw (.declares (Bundle.initS Bundle.tN)) U
theorem TX.goes {A B : Nat → Prop} {s U : State} {H : Heap} {locs : List Loc} (h : TX A s) (hS : va_S A s.heap H locs) (hAB : ∀ q, B q → A q) (hU : U.heap = H) (hW : s.WarmedH U.vm) : TX B U := by
  obtain ⟨h1, h2, h3, h4, h5, h6, h7, h8, h9⟩ := h
  refine ⟨?_, ?_, fun q hq => ?_, va_Nw.warmC hW h4, va_Nw.warmC hW h5, va_Nw.warmC hW h6, va_Nw.warmD hW h7, va_Nw.warmD hW h8, va_Nw.warmD hW h9⟩
  · rw [hU]; exact (vx_Zq.moved hW.alike (h1.kept hS.2.1)).narrow hAB
  · rw [hU]; exact (vx_Zq.moved hW.alike (h2.kept hS.2.1)).narrow hAB
  · obtain ⟨a, ha⟩ := h3 q hq
    exact ⟨a, vk_R.warm hW ha⟩
theorem TX.blind {A : Nat → Prop} : ∀ (a : Array Value) (U : State) (g : JFrame) (mk : MethodId), TX A U → TX A (U.calling g mk a) := by
  intro a U g mk h
  obtain ⟨h1, h2, h3, h4, h5, h6, h7, h8, h9⟩ := h
  refine ⟨vx_Zq.moved (u := U) (Vm.Alike.refl U.vm) h1, vx_Zq.moved (u := U) (Vm.Alike.refl U.vm) h2, fun q hq => ?_, va_Nw.same rfl (u := U) rfl h4, va_Nw.same rfl (u := U) rfl h5, va_Nw.same rfl (u := U) rfl h6, va_Nw.same rfl (u := U) rfl h7, va_Nw.same rfl (u := U) rfl h8, va_Nw.same rfl (u := U) rfl h9⟩
  obtain ⟨a0, ha⟩ := h3 q hq
  exact ⟨a0, vk_R.same (u := U) rfl ha⟩
abbrev xXC (D : va_G) (tys : List (ClassId × FieldType)) (w : va_W) (E : String) (A : Nat → Prop) : String → State → State → Prop := fun E' st t => E' = E ∧ ctE D tys w A t ∧ va_F A st t
abbrev xNo : Array Value → State → Outcome → State → Prop := fun _ _ _ _ => False
def CtX (l : Launch) (y : MethodName) (ws : List Cond) (rm : Room) (D : va_G) (tys : List (ClassId × FieldType)) (av : List Value) (w : va_W) (E : String) : Prop :=
  ∀ sz : Nat, vx_Met l y ws rm (va_Pc av (fun U => ctP D tys w sz U ∧ TX (va_A w sz) U)) xNo (xXC D tys w E (va_A w sz)) 1 6 (va_A w sz)
theorem CtX.of {l : Launch} {y : MethodName} {ws ws0 : List Cond} {rm : Room} {D : va_G} {tys : List (ClassId × FieldType)} {av : List Value} {w : va_W} {E : String} {cc : ByteArray} {maxL : Nat} {ret : Option FieldType} {lv0 : List (Nat × Value)}
    (hy : plainName y.cls = true) (hw : ws = Cond.code y cc maxL ret :: ws0) (hle : (lg_sl av).length ≤ maxL) (hlv : lv_args 0 av = lv0)
    (body : ∀ (p : Program) (e : Env) (s : State) (m : MethodId) (below : List Frame) (meth : Method) (c : Code) (A : Nat → Prop) (ls : Array Slot) (args : Array Value) (Q : State → Prop), p.tables.exec = Jvm.exec → c.code = cc → c.maxLocals = maxL → meth.locks = false → (∀ x ∈ c.exceptionTable.toList, False) → TX A s → (∀ wd ∈ ws, wd.before args s = true) → s.vm.findClass y.cls = some m.cls → va_K D vwCl tys s → va_P D vwCl w s.heap → (∀ q : Nat, s.heap.size ≤ q → A q) → va_D A w → va_S A s.heap s.heap [] → lv_has ls maxL lv0 →
      Q = vx_MQ below xNo (xXC D tys w E A) args s 1 6 A → W p l e rm s m args below meth c s.heap [] 0 0 Q (F0 m 0 ls [])) : CtX l y ws rm D tys av w E := by
  intro sz
  refine vx_ofW (cc := cc) (maxL := maxL) (ret := ret) hy hw ?_
  intro p e s m args below meth c s₁ B hml hxt hv
  obtain ⟨rfl, ⟨hsz, hP, hK, hD0⟩, hT⟩ := hv
  have hts := atoms_spec (ws := ws) B.pre
  subst hsz
  have hl := lv_entry av (n := maxL) hle
  rw [hlv] at hl
  rw [lg_entry_eq]
  have hD : va_D (va_A w s.heap.size) w := hD0.self (sz := s.heap.size)
  exact body p e s m below meth c (va_A w s.heap.size) _ _ _ B.exec B.bytes hml B.notSynchronized hxt hT hts (findClass_of_methodNamed B.named) hK hP (fun q h => Or.inr h) hD va_S.rf hl rfl
section CX
variable {p : Program} {l : Launch} {e : Env} {R : Room} {s : State} {m : MethodId} {args : Array Value} {below : List Frame} {meth : Method} {c : Code} {H : Heap} {locs : List Loc} {cells slots : Nat} {Q : State → Prop}
variable {cc : ByteArray} {pc : Nat} {ls : Array Slot} {rest st0 : List Value} {D : va_G} {A : Nat → Prop} {tys : List (ClassId × FieldType)} {ws ws' w' : va_W}
/-- the throw itself -/
theorem CtX.throwS {E : String} {ik is ic nL : Nat} {Ts : List Cond} {text : String} (hst : l.stackTraces = false) (hQ : Q = vx_MQ below xNo (xXC D tys ws E A) args s 1 6 A) (hx : p.tables.exec = Jvm.exec) (hb : c.code = cc) (hlk : meth.locks = false) (hxt : ∀ x ∈ c.exceptionTable.toList, False) (hT : TX A s) (hts : ∀ wd ∈ Ts, wd.before args s = true) (hown : s.vm.findClass RX2 = some m.cls) (hml : c.maxLocals = nL) (hls : ls.size = nL)
    (hK : va_K D vwCl tys s) (hP : va_P D vwCl ws H) (hD : va_D A ws) (hS : va_S A s.heap H locs)
    (hfit : Bundle.fit E = true ∧ ∀ n ∈ xNm, Bundle.fit n = true) (hk : Cond.classLink RX2 ik E ∈ Ts ∧ Cond.initialized E ∈ Ts) (hg : ∀ w ∈ (vx_atS RX2 ic E xNm).filter goodWord, w ∈ Ts) (hbad : ∀ w ∈ (vx_atS RX2 ic E xNm).filter (fun w => !goodWord w), w ∈ Cond.castable E E :: xD) (hcast : va_Nw (.castable E E) s) (hot : ∀ w ∈ Cond.classLink RX2 ik E :: Cond.initialized E :: vx_atS RX2 ic E xNm, vx_ot w = true) (htx : (is, text) ∈ xTexts)
    (d0 : decode cc pc = .ok (.new ik, 3)) (d3 : decode cc (pc + 3) = .ok (.dup, 1)) (d4 : decode cc (pc + 4) = .ok (.ldc is, 2)) (d6 : decode cc (pc + 6) = .ok (.invokespecial ic, 3)) (d9 : decode cc (pc + 9) = .ok (.athrow, 1))
    (hRf : 5 < R.frames) (hRl : (rest.map fun v => v.category).sum + 82 ≤ R.locals) (hRc : 1 ≤ R.cells ∧ 6 ≤ R.slots) : W p l e R s m args below meth c H locs 0 0 Q (F0 m pc ls rest) := by
  subst hQ
  obtain ⟨hU, hN, htxs, -, -, -, d7, d8, d9'⟩ := hT
  obtain ⟨sa, hstr⟩ := htxs _ htx
  refine vx_throwS (own := RX2) (cls := E) (names := xNm) (ik := ik) (is := is) (ic := ic) (sa := sa) (A := A) hx hb hst hown hfit.1 hfit.2 (hts _ hk.1) (hts _ hk.2) hstr (vx_hat (fun w hw => hts w (hg w hw)) hbad (vx_c (va_Nw.use rfl hcast) (vx_c (va_Nw.use rfl d7) (vx_c (va_Nw.use rfl d8) (vx_c (va_Nw.use rfl d9') vx_n))))) hot hU hN hS (hls.trans hml.symm) d0 d3 d4 d6 d9 (fun x h => (hxt x h).elim) hRf hRl (by omega) (by omega) hlk (fun t hvm hz hk1 => ⟨rfl, ⟨hP.kept (fun k q hq => hk1 q.1 ((hP k q hq).lt)), va_K.moved hvm hK, hD⟩, ?_⟩) hS.2.2 (Nat.le_refl _) (Nat.le_refl _)
  exact ⟨Nat.le_trans hS.1 hz, fun q h1 h2 => (hk1 q (Nat.lt_of_lt_of_le h1 hS.1)).trans (hS.2.1 q h1 h2)⟩
theorem ct_preX {wc : va_W} {av : List Value} {isC : List Nat} (hT : TX A s) (hS : va_S A s.heap H locs) (hA : ∀ q : Nat, s.heap.size ≤ q → A q) (hK : va_K D vwCl tys s) (hP : va_P D vwCl ws H) (hD : va_D A ws) (hC : isC.map (fun i => ws[i]?) = wc.map some) (hn : va_nd isC = true) : ∀ U : State, U.heap = H → s.WarmedH U.vm → va_Pc av (fun U => ctP D tys wc H.size U ∧ TX (va_A wc H.size) U) av.toArray U :=
  ct_preN hK hP hD hC hn (fun U hU hW => hT.goes hS (va_free hD hS hA isC hC) hU hW)
/-- a callee throws, and nobody here takes it -/
theorem ct_passX {E : String} {wc wr : va_W} {isC isR ps : List Nat} (hQ : Q = vx_MQ below xNo (xXC D tys ws' E A) args s 1 6 A) (hlk : meth.locks = false) (hxt : ∀ x ∈ c.exceptionTable.toList, False) (hK : va_K D vwCl tys s) (hP : va_P D vwCl ws H) (hD : va_D A ws) (hS : va_S A s.heap H locs) (hA : ∀ q : Nat, s.heap.size ≤ q → A q) (hJ : ctJ ws wc wr wc ws' isC isR ps)
    (hr : vx_Run p l e R s m args below meth c H locs 0 0 1 6 (F0 m pc ls st0) rest (fun _ _ _ => False) (xXC D tys wc E (va_A wc H.size)) (va_A wc H.size)) : W p l e R s m args below meth c H locs 0 0 Q (F0 m pc ls st0) := by
  subst hQ
  intro T hT X
  rcases hr T hT X with ⟨v, st₀, t, T', L, h0, X', hL, e1, e2, hq, st⟩ | ⟨q, st₀, t, T', L, E', ce, h0, X', hL, e1, e2, ⟨rfl, hB, hF⟩, hce, hcv, hcl, st⟩
  · exact hq.elim
  · have hfr := va_free hD hS hA isC hJ.1
    obtain ⟨k1, k2, k3⟩ := vx_keep h0 e1 hS (fun q _ h => hfr q h) hfr hL hF
    obtain ⟨j1, j2⟩ := ct_back hJ hP hD hS hA e1.symm hB k2
    have hal : s.vm.Alike T'.vm := X'.warmed.alike
    obtain ⟨t2, a1, b1⟩ := vx_out (p := p) (l := l) (e := e) (R := R) (ls := ls) (rest := rest) (Qc := xNo) (XC := xXC D tys ws' E' A) (mc := 1) (ms := 6) (free := A) (pc := pc) (fun x h => (hxt x h).elim) hlk (show T'.heap[q]? = some ce by rw [e1]; exact hce) hcv hcl (fun t9 ht9 hvm9 => ⟨rfl, ⟨by rw [ht9]; exact j1, va_K.moved hvm9 hK, j2⟩, k3.F ht9⟩) k3.2.2 (Nat.le_refl _) (Nat.le_refl _) T' rfl X'
    exact ⟨t2, st.trans a1, b1⟩
theorem CtX.passV {y : MethodName} {wsy wsy0 : List Cond} {rmy : Room} {by_ : ByteArray} {maxLy nL n index : Nat} {rt : Option FieldType} {b ci q0 : Nat} {fs : List Value} {As : List Value} {Ts : List Cond} {own C : String} {qc : vw_C} {wc wr : va_W} {isC isR ps : List Nat} {E : String}
    (hM : CtX l y wsy rmy D tys (.ref b :: As) wc E) (hF0 : ctF p m c cc s args Ts own) (hG : GoodIn Ts (wsV own index C y wsy)) (hwy : wsy = Cond.code y by_ maxLy rt :: wsy0)
    (hd : y.cls = C ∧ y.cls ≠ "java/lang/invoke/MethodHandle" ∧ y.cls ≠ "java/lang/invoke/VarHandle" ∧ (parseMethodDescriptor y.desc).map (fun d => d.parameters.length) = some n) (hR : rmy.frames + 1 ≤ R.frames ∧ 8 + (maxLy + 11) + rmy.locals ≤ R.locals) (hrc : rmy.cells = 1 ∧ rmy.slots = 6) (hml : c.maxLocals = nL) (hls : ls.size = nL)
    (hQ : Q = vx_MQ below xNo (xXC D tys ws' E A) args s 1 6 A) (hlk : meth.locks = false) (hxt : ∀ x ∈ c.exceptionTable.toList, False) (hT : TX A s)
    (hK : va_K D vwCl tys s) (hP : va_P D vwCl ws H) (hD : va_D A ws) (hS : va_S A s.heap H locs) (hA : ∀ q : Nat, s.heap.size ≤ q → A q) (hJ : ctJ ws wc wr wc ws' isC isR ps) (hrv : wc[q0]? = some (b, .inr (ci, fs))) (hcl : vwCl[ci]? = some qc ∧ qc.1 = C)
    (hst : st0 = As.reverse ++ .ref b :: rest) (hn : As.length = n) (hcat : (rest.map fun v => v.category).sum ≤ 8) (hcel : 1 ≤ R.cells ∧ 6 ≤ R.slots) (hdg : decode cc pc = .ok (.invokevirtual index, 3)) : W p l e R s m args below meth c H locs 0 0 Q (F0 m pc ls st0) := by
  obtain ⟨hx, hb, hown, hts⟩ := hF0
  have hPc := hP.sub isC (ct_fm hJ.1)
  have hrec := va_recv hK hPc hcl.1 hrv
  rw [hcl.2] at hrec
  exact ct_passX (rest := rest) hQ hlk hxt hK hP hD hS hA hJ (vx_runV (As := As) (rest := rest) ⟨hx, hb, hml, hown, hts⟩ (hM H.size) (cwV n hts hG hwy hrc.1 hrc.2 hd hR) ⟨ctPN_blind TX.blind, hrec, ct_preX hT hS hA hK hP hD hJ.1 hJ.2.2.1⟩ rfl hn hls hst (lv_room hcat) hdg ⟨by omega, by omega⟩)
theorem CtX.passS {y : MethodName} {wsy wsy0 : List Cond} {rmy : Room} {by_ : ByteArray} {maxLy nL n index : Nat} {rt : Option FieldType} {As : List Value} {Ts : List Cond} {own : String} {wc wr : va_W} {isC isR ps : List Nat} {E : String}
    (hM : CtX l y wsy rmy D tys As wc E) (hF0 : ctF p m c cc s args Ts own) (hG : GoodIn Ts (va_wsS own index y wsy)) (hwy : wsy = Cond.code y by_ maxLy rt :: wsy0)
    (hd : y.cls ≠ "java/lang/invoke/MethodHandle" ∧ y.cls ≠ "java/lang/invoke/VarHandle" ∧ (parseMethodDescriptor y.desc).map (fun d => d.parameters.length) = some n) (hR : rmy.frames + 1 ≤ R.frames ∧ 8 + (maxLy + 11) + rmy.locals ≤ R.locals) (hrc : rmy.cells = 1 ∧ rmy.slots = 6) (hml : c.maxLocals = nL) (hls : ls.size = nL)
    (hQ : Q = vx_MQ below xNo (xXC D tys ws' E A) args s 1 6 A) (hlk : meth.locks = false) (hxt : ∀ x ∈ c.exceptionTable.toList, False) (hT : TX A s)
    (hK : va_K D vwCl tys s) (hP : va_P D vwCl ws H) (hD : va_D A ws) (hS : va_S A s.heap H locs) (hA : ∀ q : Nat, s.heap.size ≤ q → A q) (hJ : ctJ ws wc wr wc ws' isC isR ps)
    (hst : st0 = As.reverse ++ rest) (hn : As.length = n) (hcat : (rest.map fun v => v.category).sum ≤ 8) (hcel : 1 ≤ R.cells ∧ 6 ≤ R.slots) (hdg : decode cc pc = .ok (.invokestatic index, 3)) : W p l e R s m args below meth c H locs 0 0 Q (F0 m pc ls st0) := by
  obtain ⟨hx, hb, hown, hts⟩ := hF0
  exact ct_passX (rest := rest) hQ hlk hxt hK hP hD hS hA hJ (vx_runS (As := As) (rest := rest) ⟨hx, hb, hml, hown, hts⟩ (hM H.size) (va_cwS n hts hG hwy hrc.1 hrc.2 hd hR) ⟨ctPN_blind TX.blind, ct_preX hT hS hA hK hP hD hJ.1 hJ.2.2.1⟩ rfl hn hls hst (lv_room hcat) hdg ⟨by omega, by omega⟩)
end CX
theorem fit_IO : Bundle.fit xIO = true ∧ ∀ n ∈ xNm, Bundle.fit n = true := by decide +kernel
theorem fit_IA : Bundle.fit xIA = true ∧ ∀ n ∈ xNm, Bundle.fit n = true := by decide +kernel
theorem fit_IS : Bundle.fit xIS = true ∧ ∀ n ∈ xNm, Bundle.fit n = true := by decide +kernel
theorem ot_IO : ∀ w ∈ Cond.classLink RX2 107 xIO :: Cond.initialized xIO :: vx_atS RX2 111 xIO xNm, vx_ot w = true := by decide +kernel
theorem ot_IA : ∀ w ∈ Cond.classLink RX2 54 xIA :: Cond.initialized xIA :: vx_atS RX2 58 xIA xNm, vx_ot w = true := by decide +kernel
theorem ot_IS : ∀ w ∈ Cond.classLink RX2 90 xIS :: Cond.initialized xIS :: vx_atS RX2 94 xIS xNm, vx_ot w = true := by decide +kernel

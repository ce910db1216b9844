/-! making: arrays of a known kind; contracts of constructors and their calls -/
section MK
variable {p : Program} {l : Launch} {e : Env} {R : Room} {s : State} {m : MethodId} {args : Array Value} {below : List Frame} {meth : Method} {c : Code} {H : Heap} {locs : List Loc} {cells slots : Nat} {Q : State → Prop}
variable {cc : ByteArray} {pc : Nat} {ls : Array Slot} {rest : List Value} {D : va_G} {cl : List vw_C} {A : Nat → Prop} {a : Nat} {tys : List (ClassId × FieldType)} {ws ws' : va_W} {H0 : Heap}
theorem mq_newa (hx : p.tables.exec = Jvm.exec) (hb : c.code = cc) {atype : ArrayType} (harr : (Cond.arrayClass (newarray.typeOf atype)).before args s = true) {ty : FieldType} (hty : newarray.typeOf atype = ty) (hK : va_K D cl tys s) (hP : va_P D cl ws H) (hD : va_D A ws) (hS : va_S A H0 H locs) (hA : ∀ q, H0.size ≤ q → A q)
    (t0 : Nat) {c0 : ClassId} (ht : tys[t0]? = some (c0, ty)) (hpr : ∀ cA : ClassId, va_RA s cA ty → s.vm.findClass ("[" ++ ty.toString) = some cA)
    {n : Int32} {N' : Nat} {a0 : vp_A} (ha : ∀ cA : ClassId, vp_cell cA a0 = arrV cA N' (fun _ => defaultValue ty)) (hn : ¬ n < 0) (hN : n.toNatClampNeg = N') (hbytes : N' * componentBytes ty ≤ 536870912) (hcells : cells + 1 ≤ R.cells) (hslots : slots + N' ≤ R.slots) (hdg : decode cc pc = .ok (.newarray atype, 2))
    (kk : ∀ (q : Nat) (H1 : Heap), va_P D cl (ws ++ [(q, .inl (c0, a0))]) H1 → va_D A (ws ++ [(q, .inl (c0, a0))]) → va_S A H0 H1 locs →
      W p l e R s m args below meth c H1 locs (cells + 1) (slots + N') Q (F0 m (pc + 2) ls (.ref q :: rest))) : W p l e R s m args below meth c H locs cells slots Q (F0 m pc ls (.int n :: rest)) := by
  refine va_newa hx hb harr hty hK hP hD hS hA ha hn hN hbytes hcells hslots hdg (fun q cA H1 hK1 hP1 hD1 hS1 => ?_)
  have h1 := hpr cA (hK1.2 tys.length (cA, ty) (by simp)).2
  have h2 := hpr c0 (hK.2 t0 _ ht).2
  have h3 : cA = c0 := Option.some.inj (h1.symm.trans h2)
  subst h3
  exact kk q H1 hP1 hD1 hS1
end MK
def CtN {S : Type} (l : Launch) (y : MethodName) (ws : List Cond) (rm : Room) (D : va_G) (tys : List (ClassId × FieldType)) (av : List Value) (w : va_W) (W1 : S → va_W) (N : State → Prop) (mc ms : Nat) : Prop :=
  ∀ sz : Nat, Met l y ws rm (va_Pc av (fun U => ctP D tys w sz U ∧ N U)) (va_Qv (fun _ : S => True) (fun u => ctE D tys (W1 u) (va_A w sz)) (va_A w sz)) mc ms (va_A w sz)
theorem CtN.of {S : Type} {l : Launch} {y : MethodName} {ws ws0 : List Cond} {rm : Room} {D : va_G} {tys : List (ClassId × FieldType)} {av : List Value} {w : va_W} {W1 : S → va_W} {N : State → Prop} {mc ms : Nat} {cc : ByteArray} {maxL : Nat} {ret : Option FieldType} {lv0 : List (Nat × Value)}
    (hy : plainName y.cls = true) (hw : ws = Cond.code y cc maxL ret :: ws0) (hle : (lg_sl av).length ≤ maxL) (hlv : lv_args 0 av = lv0)
    (body : ∀ (p : Program) (e : Env) (s : State) (m : MethodId) (below : List Frame) (meth : Method) (c : Code) (A : Nat → Prop) (ls : Array Slot) (args : Array Value) (Q : State → Prop), p.tables.exec = Jvm.exec → c.code = cc → c.maxLocals = maxL → meth.sig.returnType = ret → meth.locks = false → meth.name = y.name → N s → (∀ wd ∈ ws, wd.before args s = true) → s.vm.findClass y.cls = some m.cls → va_K D vwCl tys s → va_P D vwCl w s.heap → (∀ q : Nat, s.heap.size ≤ q → A q) → va_D A w → va_S A s.heap s.heap [] → lv_has ls maxL lv0 →
      Q = MQ below (va_Qv (fun _ : S => True) (fun u => ctE D tys (W1 u) A) A) args s mc ms A → W p l e rm s m args below meth c s.heap [] 0 0 Q (F0 m 0 ls [])) : CtN l y ws rm D tys av w W1 N mc ms := by
  intro sz
  refine Met.ofW (cc := cc) (maxL := maxL) (ret := ret) hy hw ?_
  intro p e s m args below meth c s₁ B hml hv
  obtain ⟨rfl, ⟨hsz, hP, hK, hD0⟩, hN⟩ := hv
  have hts := atoms_spec (ws := ws) B.pre
  subst hsz
  have hl := lv_entry av (n := maxL) hle
  rw [hlv] at hl
  rw [lg_entry_eq]
  have hD : va_D (va_A w s.heap.size) w := hD0.self (sz := s.heap.size)
  exact body p e s m below meth c (va_A w s.heap.size) _ _ _ B.exec B.bytes hml B.returns B.notSynchronized (name_of_methodNamed B.named B.method).1 hN hts (findClass_of_methodNamed B.named) hK hP (fun q h => Or.inr h) hD va_S.rf hl rfl
section CN
variable {p : Program} {l : Launch} {e : Env} {R : Room} {s : State} {m : MethodId} {args : Array Value} {below : List Frame} {meth : Method} {c : Code} {H : Heap} {locs : List Loc} {cells slots : Nat} {Q : State → Prop}
variable {cc : ByteArray} {pc : Nat} {ls : Array Slot} {rest st0 : List Value} {D : va_G} {A : Nat → Prop} {tys : List (ClassId × FieldType)} {ws ws' w' : va_W}
theorem CtN.ret {S : Type} {W1 : S → va_W} {mc ms : Nat} (u : S) (hQ : Q = MQ below (va_Qv (fun _ : S => True) (fun u => ctE D tys (W1 u) A) A) args s mc ms A) (hx : p.tables.exec = Jvm.exec) (hb : c.code = cc) (hr : meth.sig.returnType = none) (hlk : meth.locks = false) (hK : va_K D vwCl tys s) (hP : va_P D vwCl ws H) (hD : va_D A ws) (hS : va_S A s.heap H locs) (hdg : decode cc pc = .ok (.return_, 1)) (hw : ws = W1 u) :
    W p l e R s m args below meth c H locs mc ms Q (F0 m pc ls []) := by
  subst hQ; subst hw
  exact W.vret hx hb hr (fun t ht hW => ⟨⟨u, rfl, trivial, by rw [ht]; exact hP, va_K.moved hW.alike hK, hD⟩, hS.F ht⟩) hS.2.2 hdg hlk
theorem ct_preN {wc : va_W} {av : List Value} {isC : List Nat} {N : State → Prop} (hK : va_K D vwCl tys s) (hP : va_P D vwCl ws H) (hD : va_D A ws) (hC : isC.map (fun i => ws[i]?) = wc.map some) (hn : va_nd isC = true) (hN : ∀ U : State, U.heap = H → s.WarmedH U.vm → N U) : ∀ U : State, U.heap = H → s.WarmedH U.vm → va_Pc av (fun U => ctP D tys wc H.size U ∧ N U) av.toArray U := by
  intro U hU hW
  exact ⟨rfl, (ct_pre (av := av) hK hP hD hC hn U hU hW).2, hN U hU hW⟩
theorem ctPN_blind {w : va_W} {sz : Nat} {av : List Value} {N : State → Prop} (hN : ∀ (a : Array Value) (U : State) (g : JFrame) (mk : MethodId), N U → N (U.calling g mk a)) : FrameBlind (va_Pc av (fun U => ctP D tys w sz U ∧ N U)) := fun a U g mk q => ⟨q.1, (ctP_blind (av := av) a U g mk ⟨q.1, q.2.1⟩).2, hN a U g mk q.2.2⟩
theorem CtN.callI {S : Type} {W1 : S → va_W} {N : State → Prop} {mc ms : Nat} {y : MethodName} {wsy : List Cond} {rmy : Room} {by_ : ByteArray} {maxLy nL n index b : Nat} {As : List Value} {Ts : List Cond} {own : String} {wc wr : va_W} {isC isR : List Nat}
    (hM : CtN l y wsy rmy D tys (.ref b :: As) wc W1 N mc ms) (hF0 : ctF p m c cc s args Ts own) (cw : CallB R s args own index y by_ maxLy none wsy rmy mc ms n ∧ y.name = "<init>" ∧ (Cond.instanceMethod y).before args s = true)
    (hNb : ∀ (a : Array Value) (U : State) (g : JFrame) (mk : MethodId), N U → N (U.calling g mk a)) (hN : ∀ U : State, U.heap = H → s.WarmedH U.vm → N U) (hml : c.maxLocals = nL) (hls : ls.size = nL)
    (hK : va_K D vwCl tys s) (hP : va_P D vwCl ws H) (hD : va_D A ws) (hS : va_S A s.heap H locs) (hA : ∀ q : Nat, s.heap.size ≤ q → A q) (hC : isC.map (fun i => ws[i]?) = wc.map some) (hR : isR.map (fun i => ws[i]?) = wr.map some) (hnC : va_nd isC = true) (hnR : va_nd isR = true) (hdis : (isR.all fun i => decide (i ∉ isC)) = true)
    (hst : st0 = As.reverse ++ .ref b :: rest) (hn : As.length = n) (hcat : (rest.map fun v => v.category).sum ≤ 8) (hcel : cells + mc ≤ R.cells ∧ slots + ms ≤ R.slots) (hdg : decode cc pc = .ok (.invokespecial index, 3))
    (kk : ∀ (u : S) (H1 : Heap) (locs1 : List Loc), va_P D vwCl (wr ++ W1 u) H1 → va_D A (wr ++ W1 u) → va_S A s.heap H1 locs1 → W p l e R s m args below meth c H1 locs1 (cells + mc) (slots + ms) Q (F0 m (pc + 3) ls rest)) : W p l e R s m args below meth c H locs cells slots Q (F0 m pc ls st0) := by
  obtain ⟨hx, hb, hown, hts⟩ := hF0
  have hF := va_free hD hS hA isC hC
  refine va_callv (va_runI (As := As) (rest := rest) ⟨hx, hb, hml, hown, hts⟩ (hM H.size) cw ⟨ctPN_blind hNb, ct_preN hK hP hD hC hnC hN⟩ rfl hn hls hst (lv_room hcat) hdg hcel) hS (fun q _ h => hF q h) hF (fun u t H1 locs1 ht hvm hw hB hz1 hk1 hS1 => ?_)
  obtain ⟨hP1, -, hD1⟩ := hB
  rw [ht] at hP1
  obtain ⟨j1, j2⟩ := va_join hP hD isC isR hC hR hnR (fun i hi => by have := List.all_eq_true.mp hdis i hi; exact of_decide_eq_true this) hk1 hF hP1 hD1
  exact kk u H1 locs1 j1 j2 hS1
theorem CtN.callIN {S : Type} {W1 : S → va_W} {N : State → Prop} {mc ms : Nat} {y : MethodName} {wsy : List Cond} {rmy : Room} {by_ : ByteArray} {maxLy nL n index b : Nat} {As : List Value} {Ts : List Cond} {own host : String} {wc wr : va_W} {isC isR : List Nat}
    (hM : CtN l y wsy rmy D tys (.ref b :: As) wc W1 N mc ms) (hF0 : ctF p m c cc s args Ts own) (cw : va_CN R s args own index y host by_ maxLy none wsy rmy mc ms n ∧ y.name = "<init>" ∧ (Cond.instanceMethod y).before args s = true)
    (hNb : ∀ (a : Array Value) (U : State) (g : JFrame) (mk : MethodId), N U → N (U.calling g mk a)) (hN : ∀ U : State, U.heap = H → s.WarmedH U.vm → N U) (hml : c.maxLocals = nL) (hls : ls.size = nL)
    (hK : va_K D vwCl tys s) (hP : va_P D vwCl ws H) (hD : va_D A ws) (hS : va_S A s.heap H locs) (hA : ∀ q : Nat, s.heap.size ≤ q → A q) (hC : isC.map (fun i => ws[i]?) = wc.map some) (hR : isR.map (fun i => ws[i]?) = wr.map some) (hnC : va_nd isC = true) (hnR : va_nd isR = true) (hdis : (isR.all fun i => decide (i ∉ isC)) = true)
    (hst : st0 = As.reverse ++ .ref b :: rest) (hn : As.length = n) (hcat : (rest.map fun v => v.category).sum ≤ 8) (hcel : cells + mc ≤ R.cells ∧ slots + ms ≤ R.slots) (hdg : decode cc pc = .ok (.invokespecial index, 3))
    (kk : ∀ (u : S) (H1 : Heap) (locs1 : List Loc), va_P D vwCl (wr ++ W1 u) H1 → va_D A (wr ++ W1 u) → va_S A s.heap H1 locs1 → W p l e R s m args below meth c H1 locs1 (cells + mc) (slots + ms) Q (F0 m (pc + 3) ls rest)) : W p l e R s m args below meth c H locs cells slots Q (F0 m pc ls st0) := by
  obtain ⟨hx, hb, hown, hts⟩ := hF0
  have hF := va_free hD hS hA isC hC
  refine va_callv (va_runIN (As := As) (rest := rest) ⟨hx, hb, hml, hown, hts⟩ (hM H.size) cw ⟨ctPN_blind hNb, ct_preN hK hP hD hC hnC hN⟩ rfl hn hls hst (lv_room hcat) hdg hcel) hS (fun q _ h => hF q h) hF (fun u t H1 locs1 ht hvm hw hB hz1 hk1 hS1 => ?_)
  obtain ⟨hP1, -, hD1⟩ := hB
  rw [ht] at hP1
  obtain ⟨j1, j2⟩ := va_join hP hD isC isR hC hR hnR (fun i hi => by have := List.all_eq_true.mp hdis i hi; exact of_decide_eq_true this) hk1 hF hP1 hD1
  exact kk u H1 locs1 j1 j2 hS1
end CN
def noN (_ : State) : Prop := True
def lnkN (U : State) : Prop := va_Nw (.methodLinkNest RX2 30 yX1_init RX2) U
theorem noN_b : ∀ (a : Array Value) (U : State) (g : JFrame) (mk : MethodId), noN U → noN (U.calling g mk a) := fun _ _ _ _ h => h
theorem lnkN_b : ∀ (a : Array Value) (U : State) (g : JFrame) (mk : MethodId), lnkN U → lnkN (U.calling g mk a) := fun a U g mk h => va_Nw.same rfl (u := U) rfl h

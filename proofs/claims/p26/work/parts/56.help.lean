/-! the law's helpers: a static call that reads the script -/
def CtK (l : Launch) (y : MethodName) (ws : List Cond) (rm : Room) (D : va_G) (tys : List (ClassId × FieldType)) (av : List Value) (N : State → Prop) (v : Int32) : Prop :=
  ∀ sz : Nat, Met l y ws rm (va_Pc av (fun U => ctP D tys [] sz U ∧ N U)) (ctQi D tys v [] (va_A [] sz)) 0 0 (va_A [] sz)
theorem CtK.of {l : Launch} {y : MethodName} {ws ws0 : List Cond} {rm : Room} {D : va_G} {tys : List (ClassId × FieldType)} {av : List Value} {N : State → Prop} {v : Int32} {cc : ByteArray} {maxL : Nat} {ret : Option FieldType} {lv0 : List (Nat × Value)}
    (hy : plainName y.cls = true) (hw : ws = Cond.code y cc maxL ret :: ws0) (hle : (lg_sl av).length ≤ maxL) (hlv : lv_args 0 av = lv0)
    (body : ∀ (p : Program) (e : Env) (s : State) (m : MethodId) (below : List Frame) (meth : Method) (c : Code) (A : Nat → Prop) (ls : Array Slot) (args : Array Value) (Q : State → Prop), p.tables.exec = Jvm.exec → c.code = cc → c.maxLocals = maxL → meth.sig.returnType = ret → meth.locks = false → N s → (∀ wd ∈ ws, wd.before args s = true) → s.vm.findClass y.cls = some m.cls → va_K D vwCl tys s → va_P D vwCl ([] : va_W) s.heap → (∀ q : Nat, s.heap.size ≤ q → A q) → (∀ q : Nat, q < s.heap.size → ¬ A q) → va_D A ([] : va_W) → va_S A s.heap s.heap [] → lv_has ls maxL lv0 →
      Q = MQ below (ctQi D tys v [] A) args s 0 0 A → W p l e rm s m args below meth c s.heap [] 0 0 Q (F0 m 0 ls [])) : CtK l y ws rm D tys av N v := by
  intro sz
  refine Met.ofW (cc := cc) (maxL := maxL) (ret := ret) hy hw ?_
  intro p e s m args below meth c s₁ B hml hv
  obtain ⟨rfl, ⟨hsz, hP, hK, hD0⟩, hN⟩ := hv
  have hts := atoms_spec (ws := ws) B.pre
  subst hsz
  have hl := lv_entry av (n := maxL) hle
  rw [hlv] at hl
  rw [lg_entry_eq]
  have hD : va_D (va_A [] s.heap.size) [] := hD0.self (sz := s.heap.size)
  refine body p e s m below meth c (va_A [] s.heap.size) _ _ _ B.exec B.bytes hml B.returns B.notSynchronized hN hts (findClass_of_methodNamed B.named) hK hP (fun q h => Or.inr h) (fun q hq h => ?_) hD va_S.rf hl rfl
  rcases h with ⟨k, e, h⟩ | h
  · simp at h
  · omega
section CK
variable {p : Program} {l : Launch} {e : Env} {R : Room} {s : State} {m : MethodId} {args : Array Value} {below : List Frame} {meth : Method} {c : Code} {H : Heap} {locs : List Loc} {cells slots : Nat} {Q : State → Prop}
variable {cc : ByteArray} {pc : Nat} {ls : Array Slot} {rest st0 : List Value} {D : va_G} {A : Nat → Prop} {tys : List (ClassId × FieldType)} {ws : va_W}
theorem CtK.callS {y : MethodName} {wsy wsy0 : List Cond} {rmy : Room} {by_ : ByteArray} {maxLy nL n index : Nat} {rt : Option FieldType} {As : List Value} {Ts : List Cond} {own : String} {N : State → Prop} {isR ps : List Nat} {v : Int32}
    (hM : CtK l y wsy rmy D tys As N v) (hNb : ∀ (a : Array Value) (U : State) (g : JFrame) (mk : MethodId), N U → N (U.calling g mk a)) (hN : ∀ U : State, U.heap = H → s.WarmedH U.vm → N U) (S : ctF p m c cc s args Ts own) (hG : GoodIn Ts (va_wsS own index y wsy)) (hwy : wsy = Cond.code y by_ maxLy rt :: wsy0)
    (hd : y.cls ≠ "java/lang/invoke/MethodHandle" ∧ y.cls ≠ "java/lang/invoke/VarHandle" ∧ (parseMethodDescriptor y.desc).map (fun d => d.parameters.length) = some n) (hR : rmy.frames + 1 ≤ R.frames ∧ 8 + (maxLy + 11) + rmy.locals ≤ R.locals) (hrc : rmy.cells = 0 ∧ rmy.slots = 0) (hml : c.maxLocals = nL) (hls : ls.size = nL)
    (hK : va_K D vwCl tys s) (hP : va_P D vwCl ws H) (hD : va_D A ws) (hS : va_S A s.heap H locs) (hA : ∀ q : Nat, s.heap.size ≤ q → A q) (hJ : ctJ ws [] ws [] ws [] isR ps)
    (hst : st0 = As.reverse ++ rest) (hn : As.length = n) (hcat : (rest.map fun v => v.category).sum ≤ 8) (hcel : cells ≤ R.cells ∧ slots ≤ R.slots) (hdg : decode cc pc = .ok (.invokestatic index, 3))
    (kk : ∀ (H1 : Heap) (locs1 : List Loc), va_P D vwCl ws H1 → va_D A ws → va_S A s.heap H1 locs1 → W p l e R s m args below meth c H1 locs1 cells slots Q (F0 m (pc + 3) ls (.int v :: rest))) : W p l e R s m args below meth c H locs cells slots Q (F0 m pc ls st0) := by
  obtain ⟨hx, hb, hown, hts⟩ := S
  have hF := va_free hD hS hA [] hJ.1
  refine va_calli (va_runS (As := As) (rest := rest) ⟨hx, hb, hml, hown, hts⟩ (hM H.size) (va_cwS n hts hG hwy hrc.1 hrc.2 hd hR) ⟨ctPN_blind hNb, ct_preN hK hP hD hJ.1 hJ.2.2.1 hN⟩ rfl hn hls hst (lv_room hcat) hdg ⟨hcel.1, hcel.2⟩) hS (fun q _ h => hF q h) hF (fun r u t H1 locs1 ht hvm hw hB hz1 hk1 hS1 => ?_)
  obtain ⟨j1, j2⟩ := ct_back hJ hP hD hS hA ht hB hk1
  subst hw
  exact kk H1 locs1 j1 j2 hS1
end CK
/-- a callee that sees nothing of the world -/
theorem ctJ_0 {w : va_W} {n : Nat} (h : w.length = n) (hn : va_nd (List.range' 0 n) = true) (hdis : ((List.range' 0 n).all fun i => decide (i ∉ ([] : List Nat))) = true) : ctJ w [] w [] w [] (List.range' 0 n) (List.range' 0 n) := by
  have e := map_rng [] w [] 0 rfl
  rw [h, List.append_nil] at e
  have e2 := e
  rw [← List.append_nil ([] ++ w)] at e2
  exact ⟨rfl, e, rfl, hn, hdis, by rw [List.append_nil]; exact e, hn⟩
def tapeN (b L : Nat) (xs : Nat → Int32) (U : State) : Prop := b < U.heap.size ∧ va_X b L xs U U.heap
theorem tapeN_b {b L : Nat} {xs : Nat → Int32} : ∀ (a : Array Value) (U : State) (g : JFrame) (mk : MethodId), tapeN b L xs U → tapeN b L xs (U.calling g mk a) := fun a U g mk h => ⟨h.1, va_X.moved (u := U) (U := U.calling g mk a) (Vm.Alike.refl U.vm) h.2⟩
theorem tapeN_goes {b L : Nat} {xs : Nat → Int32} {s U : State} {A : Nat → Prop} {H : Heap} {locs : List Loc} (hX : va_X b L xs s s.heap) (hbl : b < s.heap.size) (hbA : ¬ A b) (hS : va_S A s.heap H locs) (hU : U.heap = H) (hW : s.WarmedH U.vm) : tapeN b L xs U := by
  unfold tapeN
  rw [hU]
  exact ⟨Nat.lt_of_lt_of_le hbl hS.1, (hX.kept (hS.2.1 b hbl hbA)).moved hW.alike⟩
/-- the half of a number's bits -/
def half (x : Int32) : Nat := x.toBitVec.toNat / 2
theorem half_lt (x : Int32) : half x < 2 ^ 31 := by
  unfold half
  have := x.toBitVec.isLt
  omega
theorem nI_ofBits {x : Int32} {n : Nat} (h : x.toBitVec.toNat = n) : x = nI n := by
  subst h
  apply Int32.toBitVec_inj.mp
  show x.toBitVec = BitVec.ofNat 32 x.toBitVec.toNat
  rw [BitVec.ofNat_toNat, BitVec.setWidth_eq]
theorem ushr_half (x : Int32) : (x.toUInt32 >>> ((nI 1).toUInt32 &&& Int32.toUInt32 31)).toInt32 = nI (half x) := by
  refine nI_ofBits ?_
  rw [pk_ushr x (nI 1) 1 (by decide)]
  rfl
/-- what the law draws at a place of the script -/
def drw (xs : Nat → Int32) (L k : Nat) : Int32 := if k < L then xs k else nI 27697 * nI k + 40009
abbrev rmL_drawn : Room := { frames := 0, cells := 0, slots := 0, locals := 0 }
set_option maxRecDepth 10000 in
theorem c_drawn (l : Launch) (D : va_G) (cyI cyZ cyJ : ClassId) (b L : Nat) (xs : Nat → Int32) (k n : Nat) (hk : k < 2 ^ 31) (hL : L < 2 ^ 31) (hn : 0 < n) (hn2 : n < 2 ^ 31) : CtK l yL_drawn wsL_drawn rmL_drawn D (T3 cyI cyZ cyJ) [.ref b, .int (nI k), .int (nI n)] (tapeN b L xs) (nI (half (drw xs L k) % n)) := by
  refine CtK.of (cc := cL_drawn) (maxL := 4) (ret := (some .int)) (lv0 := [(0, .ref b), (1, .int (nI k)), (2, .int (nI n))]) (by decide) rfl (Nat.le_of_ble_eq_true rfl) rfl ?_
  intro p e s m below meth c A ls args Q hx hb hml hr hlk hN hts hown hK hP hA hAn hD hS hl hQ
  obtain ⟨hbl, hX⟩ := hN
  have hbA := hAn b hbl
  have hown : s.vm.findClass RL = some m.cls := hown
  have hend : ∀ (x : Int32), x = drw xs L k → W p l e rmL_drawn s m args below meth c s.heap [] 0 0 Q (F0 m 20 ls [.int x]) := by
    intro x hxx
    refine lv_istore_n (lv' := [(3, .int x), (0, .ref b), (1, .int (nI k)), (2, .int (nI n))]) hx hb dL_drawn_20 rfl hl (by decide) rfl (fun ls hl => ?_)
    refine lv_iload_n hx hb dL_drawn_21 rfl (lv_at hl 0 rfl) ?_
    refine lv_iconst (v := nI 1) hx hb dL_drawn_22 (by decide) ?_
    refine lv_iushr (v := nI (half x)) hx hb dL_drawn_23 (ushr_half x) ?_
    refine lv_iload_n hx hb dL_drawn_24 rfl (lv_at hl 3 rfl) ?_
    refine mq_irem (x := half x) (y := n) (half_lt x) hn hn2 hx hb dL_drawn_25 ?_
    exact CtI.ret hQ hx hb hr hlk hK hP hD hS dL_drawn_26 (by rw [hxx]) rfl
  refine lv_iload_n hx hb dL_drawn_0 rfl (lv_at hl 1 rfl) ?_
  refine lv_aload_n hx hb dL_drawn_1 rfl (lv_at hl 0 rfl) ?_
  refine va_slen hx hb hX hbl hbA hS dL_drawn_2 ?_
  refine mq_ge (x := k) (y := L) (tgt := 12) hk hL hx hb dL_drawn_3 (by decide) (fun h => ?_) (fun h => ?_)
  · refine lv_sipush (v := nI 27697) hx hb dL_drawn_12 (by decide) ?_
    refine lv_iload_n hx hb dL_drawn_15 rfl (lv_at hl 1 rfl) ?_
    refine lv_imul (x := nI 27697) (y := nI k) hx hb dL_drawn_16 ?_
    refine W.ldc (own := RL) (v := 40009) hx hb hown (hts (.constant RL 7 (40009)) (by decide +kernel)) rfl dL_drawn_17 ?_
    refine lv_iadd (x := nI 27697 * nI k) (y := 40009) hx hb dL_drawn_19 ?_
    exact hend _ (by unfold drw; rw [if_neg (by omega)])
  · refine lv_aload_n hx hb dL_drawn_6 rfl (lv_at hl 0 rfl) ?_
    refine lv_iload_n hx hb dL_drawn_7 rfl (lv_at hl 1 rfl) ?_
    refine va_sld hx hb hX hbl hbA hS (vp_in_nI h hL) dL_drawn_8 ?_
    refine lv_goto (tgt := 20) hx hb dL_drawn_9 (by decide) ?_
    rw [nI_clamp hk]
    exact hend _ (by unfold drw; rw [if_pos h])
abbrev rmL_address : Room := { frames := 0, cells := 0, slots := 0, locals := 0 }
theorem c_address (l : Launch) (D : va_G) (cyI cyZ cyJ : ClassId) (sl : Nat) (hs : sl < 64) : CtI l yL_address wsL_address rmL_address D (T3 cyI cyZ cyJ) [.int (nI sl)] (([] : va_W)) (nI (ads sl)) (([] : va_W)) := by
  refine CtI.of (cc := cL_address) (maxL := 1) (ret := (some .int)) (lv0 := [(0, .int (nI sl))]) (by decide) rfl (Nat.le_of_ble_eq_true rfl) rfl ?_
  intro p e s m below meth c A ls args Q hx hb hml hr hlk hts hown hK hP hA hD hS hl hQ
  refine lv_sipush (v := nI 128) hx hb dL_address_0 (by decide) ?_
  refine lv_iload_n hx hb dL_address_3 rfl (lv_at hl 0 rfl) ?_
  refine lv_bipush (v := nI 8) hx hb dL_address_4 (by decide) ?_
  refine mq_idiv (x := sl) (y := 8) (by omega) (by omega) (by omega) hx hb dL_address_6 ?_
  refine mq_imul (x := 128) (y := sl / 8) hx hb dL_address_7 ?_
  refine lv_iload_n hx hb dL_address_8 rfl (lv_at hl 0 rfl) ?_
  refine lv_bipush (v := nI 8) hx hb dL_address_9 (by decide) ?_
  refine mq_irem (x := sl) (y := 8) (by omega) (by omega) (by omega) hx hb dL_address_11 ?_
  refine mq_iadd (x := 128 * (sl / 8)) (y := sl % 8) hx hb dL_address_12 ?_
  refine lv_iload_n hx hb dL_address_13 rfl (lv_at hl 0 rfl) ?_
  refine lv_bipush (v := nI 8) hx hb dL_address_14 (by decide) ?_
  refine mq_idiv (x := sl) (y := 8) (by omega) (by omega) (by omega) hx hb dL_address_16 ?_
  refine mq_iadd (x := 128 * (sl / 8) + sl % 8) (y := sl / 8) hx hb dL_address_17 ?_
  exact CtI.ret hQ hx hb hr hlk hK hP hD hS dL_address_18 rfl rfl

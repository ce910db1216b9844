section
/-- a private method of a class that the tables say can be made, by its rows of tables_1 -/
def lw_okq (q : MethodName × Nat) : Prop := (q.1.cls ≠ "java/lang/invoke/MethodHandle" ∧ q.1.cls ≠ "java/lang/invoke/VarHandle") ∧ Cond.instantiable q.1.cls q.2 ∈ tables_1 ∧ Cond.privateMethod q.1 ∈ tables_1 ∧ Cond.instanceMethod q.1 ∈ tables_1
theorem lw_p0 : lw_okq (⟨"java/lang/Throwable", "fillInStackTrace", "(I)Ljava/lang/Throwable;"⟩, 6) := ⟨⟨by decide +kernel, by decide +kernel⟩, List.mem_of_getElem? (i := 165) (by decide +kernel), List.mem_of_getElem? (i := 163) (by decide +kernel), List.mem_of_getElem? (i := 164) (by decide +kernel)⟩
theorem lw_p1 : lw_okq (⟨"OutcastBench", "ask", "(IZ)V"⟩, 5) := ⟨⟨by decide +kernel, by decide +kernel⟩, List.mem_of_getElem? (i := 14) (by decide +kernel), List.mem_of_getElem? (i := 198) (by decide +kernel), List.mem_of_getElem? (i := 199) (by decide +kernel)⟩
theorem lw_p2 : lw_okq (⟨"OutcastBench$CacheAndBench", "setOf", "(I)I"⟩, 11) := ⟨⟨by decide +kernel, by decide +kernel⟩, List.mem_of_getElem? (i := 22) (by decide +kernel), List.mem_of_getElem? (i := 206) (by decide +kernel), List.mem_of_getElem? (i := 207) (by decide +kernel)⟩
theorem lw_p3 : lw_okq (⟨"OutcastBench$CacheAndBench", "seatOf", "(I)I"⟩, 11) := ⟨⟨by decide +kernel, by decide +kernel⟩, List.mem_of_getElem? (i := 22) (by decide +kernel), List.mem_of_getElem? (i := 210) (by decide +kernel), List.mem_of_getElem? (i := 211) (by decide +kernel)⟩
theorem lw_p4 : lw_okq (⟨"OutcastBench$CacheAndBench", "leaveBench", "(I)V"⟩, 11) := ⟨⟨by decide +kernel, by decide +kernel⟩, List.mem_of_getElem? (i := 22) (by decide +kernel), List.mem_of_getElem? (i := 214) (by decide +kernel), List.mem_of_getElem? (i := 215) (by decide +kernel)⟩
theorem lw_p5 : lw_okq (⟨"OutcastBench$CacheAndBench", "bringHomeIfDirty", "(I)V"⟩, 11) := ⟨⟨by decide +kernel, by decide +kernel⟩, List.mem_of_getElem? (i := 22) (by decide +kernel), List.mem_of_getElem? (i := 222) (by decide +kernel), List.mem_of_getElem? (i := 223) (by decide +kernel)⟩
theorem lw_p6 : lw_okq (⟨"OutcastBench", "keepHomeWords", "(I)V"⟩, 5) := ⟨⟨by decide +kernel, by decide +kernel⟩, List.mem_of_getElem? (i := 14) (by decide +kernel), List.mem_of_getElem? (i := 234) (by decide +kernel), List.mem_of_getElem? (i := 235) (by decide +kernel)⟩
theorem lw_p7 : lw_okq (⟨"OutcastBench", "requireSet", "(I)V"⟩, 5) := ⟨⟨by decide +kernel, by decide +kernel⟩, List.mem_of_getElem? (i := 14) (by decide +kernel), List.mem_of_getElem? (i := 289) (by decide +kernel), List.mem_of_getElem? (i := 290) (by decide +kernel)⟩
theorem lw_p8 : lw_okq (⟨"OutcastBench", "costOfTrial", "(II)I"⟩, 5) := ⟨⟨by decide +kernel, by decide +kernel⟩, List.mem_of_getElem? (i := 14) (by decide +kernel), List.mem_of_getElem? (i := 384) (by decide +kernel), List.mem_of_getElem? (i := 385) (by decide +kernel)⟩
def lw_privs_1 : List (MethodName × Nat) := [(⟨"java/lang/Throwable", "fillInStackTrace", "(I)Ljava/lang/Throwable;"⟩, 6), (⟨"OutcastBench", "ask", "(IZ)V"⟩, 5), (⟨"OutcastBench$CacheAndBench", "setOf", "(I)I"⟩, 11), (⟨"OutcastBench$CacheAndBench", "seatOf", "(I)I"⟩, 11), (⟨"OutcastBench$CacheAndBench", "leaveBench", "(I)V"⟩, 11), (⟨"OutcastBench$CacheAndBench", "bringHomeIfDirty", "(I)V"⟩, 11), (⟨"OutcastBench", "keepHomeWords", "(I)V"⟩, 5), (⟨"OutcastBench", "requireSet", "(I)V"⟩, 5), (⟨"OutcastBench", "costOfTrial", "(II)I"⟩, 5)]
theorem lw_r1 : ∀ q ∈ lw_privs_1, lw_okq q := List.forall_mem_cons.mpr ⟨lw_p0, List.forall_mem_cons.mpr ⟨lw_p1, List.forall_mem_cons.mpr ⟨lw_p2, List.forall_mem_cons.mpr ⟨lw_p3, List.forall_mem_cons.mpr ⟨lw_p4, List.forall_mem_cons.mpr ⟨lw_p5, List.forall_mem_cons.mpr ⟨lw_p6, List.forall_mem_cons.mpr ⟨lw_p7, List.forall_mem_cons.mpr ⟨lw_p8, fun _ h => absurd h List.not_mem_nil⟩⟩⟩⟩⟩⟩⟩⟩⟩
def lw_privs : List (MethodName × Nat) := lw_privs_1
def lw_tbl : List Cond := k2_sels lw_privs ++ tables_1
theorem lw_privs_ok : ∀ q ∈ lw_privs, lw_okq q := lw_r1
end
section
/-! ===== BEGIN words of one list among another's, by their places ===== -/
theorem goodIn_r {big : List Cond} (ws : List Cond) (ps : List Nat) (hp : ws = ps.filterMap (fun i => big[i]?)) (h : ws.all goodWord = true) : GoodIn big ws := by
  intro w hw
  have h1 := List.all_eq_true.mp h w hw
  rw [hp] at hw
  obtain ⟨i, -, hi⟩ := List.mem_filterMap.mp hw
  have hm : w ∈ big := by first | exact List.mem_of_getElem? hi | exact List.getElem?_mem hi
  exact ⟨hm, good_of_word h1⟩
theorem goodIn_app {big a b : List Cond} (ha : GoodIn big a) (hb : GoodIn big b) : GoodIn big (a ++ b) := fun w h => (List.mem_append.mp h).elim (ha w) (hb w)
theorem goodIn_ca {big a b : List Cond} {c : Cond} (ha : GoodIn big (c :: a)) (hb : GoodIn big b) : GoodIn big (c :: (a ++ b)) := fun w h => (List.mem_cons.mp h).elim (fun e => ha w (List.mem_cons.mpr (Or.inl e))) (fun h => (List.mem_append.mp h).elim (fun h => ha w (List.mem_cons.mpr (Or.inr h))) (hb w))
theorem goodIn_sub {big ws : List Cond} (hm : ∀ w ∈ ws, w ∈ big) (h : ws.all goodWord = true) : GoodIn big ws := fun w hw => ⟨hm w hw, good_of_word (List.all_eq_true.mp h w hw)⟩
/-! ===== END ===== -/

/-! ===== BEGIN exceptions that leave a method, and their catching by the caller (launches without stack traces) ===== -/
section VXA
/-! The laws vx_back, vx_callV, vx_callS, vx_callSW, vx_throw0, vx_throwS follow proofs of the library, with one case more: JvmDerived/Free/Laws.lean (Back.of_free), Shelf42/LK1.lean (callV, callS), Shelf/KitTraced.lean (throwNew0V, throwNewS). -/
/-- where a method has thrown q: the class by its name, the cell, what was written, the world -/
def vx_T (XC : String → State → State → Prop) (st : State) (q : Addr) (t : State) (mc ms : Nat) (free : Addr → Prop) : Prop :=
  ∃ (E : String) (ce : Cell) (L : List Loc), XC E st t ∧ t.heap[q]? = some ce ∧ ce.vm = .none ∧ st.vm.findClass E = some ce.cls ∧ st.WarmedH t.vm ∧ st.sameButNew ({ t with vm := st.vm } : State) L mc ms ∧ ∀ z ∈ L, free z.base
def vx_Q (Qc : Array Value → State → Outcome → State → Prop) (XC : String → State → State → Prop) (mc ms : Nat) (free : Addr → Prop) : Array Value → State → Outcome → State → Prop := fun a st o t =>
  (Qc a st o t ∧ ∃ L, FrameEnd st o t L mc ms ∧ ∀ q ∈ L, free q.base) ∨ ∃ q, o = .threw q ∧ vx_T XC st q t mc ms free
/-- a callee that returns or throws -/
def vx_Met (l : Launch) (y : MethodName) (ws : List Cond) (rm : Room) (Pc : Array Value → State → Prop) (Qc : Array Value → State → Outcome → State → Prop) (XC : String → State → State → Prop) (mc ms : Nat) (free : Addr → Prop) : Prop :=
  MetFree l y (headSpec ws rm) Pc (fun _ _ _ _ _ => True) (vx_Q Qc XC mc ms free)
def vx_Post (XC : String → State → State → Prop) (mc ms : Nat) (free : Addr → Prop) : Pt → Array Value → Addr → Pt → Prop := fun A a q B =>
  ∃ (g : JFrame) (mk : MethodId) (t : State) (L : List Loc) (E : String) (ce : Cell), B.U.heap = t.heap ∧ B.U.vm = t.vm ∧ XC E (A.U.calling g mk a) t ∧ t.heap[q]? = some ce ∧ ce.vm = .none ∧ A.U.vm.findClass E = some ce.cls ∧ B.locs = A.locs ++ L ∧ (∀ z ∈ L, free z.base) ∧ B.cells = A.cells + mc ∧ B.slots = A.slots + ms
def vx_Back (l : Launch) (R : Room) (p : Program) (e : Env) (below : List Frame) (s : State) (sargs : Array Value) (y : MethodName) (len W9 : Nat)
    (Pre : Pt → Array Value → Prop) (Post : Pt → Array Value → Option Value → Pt → Prop) (PostX : Pt → Array Value → Addr → Pt → Prop) : Prop :=
  ∀ (m : MethodId) (meth : Method) (c : Code) (A : Pt) (g : JFrame) (ig : Instr) (mk : MethodId) (a : Array Value),
    Stand p l e R s m sargs below meth c A.U A.locs A.cells A.slots → g.method = m → g.locals.size = c.maxLocals → decode c.code g.pc = .ok (ig, len) →
    2 * g.monitorRoom + (g.stack.map fun v => v.category).sum ≤ W9 → A.U.methodNamed? y = some mk → Pre A a →
    (∃ (v : Option Value) (B : Pt), Stand p l e R s m sargs below meth c B.U B.locs B.cells B.slots ∧ Post A a v B ∧
      Steps p.tables e below (doInvoke e (A.U.setTop g) [] mk a).1 (B.U.setTop { g with pc := g.pc + len, stack := v.toList ++ g.stack })) ∨
    (∃ (q : Addr) (B : Pt), Stand p l e R s m sargs below meth c B.U B.locs B.cells B.slots ∧ PostX A a q B ∧
      Steps p.tables e below (doInvoke e (A.U.setTop g) [] mk a).1 ((B.U.setTop g).pushFrame (.throwing q)))
section Payer
variable {l : Launch} {R : Room} {p : Program} {e : Env} {below : List Frame} {s : State} {sargs : Array Value} {y : MethodName} {len W9 : Nat}
theorem vx_back {ws : List Cond} {rm : Room} {Pc : Array Value → State → Prop} {Qc : Array Value → State → Outcome → State → Prop} {XC : String → State → State → Prop} {mc ms : Nat} {free : Addr → Prop} {bytes : ByteArray} {maxL : Nat} {ret : Option FieldType}
    (hM : vx_Met l y ws rm Pc Qc XC mc ms free) (hblind : FrameBlind Pc) (hrc : rm.cells = mc) (hrs : rm.slots = ms)
    (hframes : rm.frames + 1 ≤ R.frames) (hlocals : W9 + (maxL + 11) + rm.locals ≤ R.locals)
    (hws : ∀ w ∈ ws, ∀ a' U, s.WarmedH U.vm → w.before a' U = true) (hcode : Cond.code y bytes maxL ret ∈ ws) (hinit : ∀ a' U, s.WarmedH U.vm → (Cond.initialized y.cls).before a' U = true) :
    vx_Back l R p e below s sargs y len W9 (PreOf R mc ms Pc) (PostOf Qc mc ms free) (vx_Post XC mc ms free) := by
  intro m meth c A g ig mk a X hg hsize hdg hW hn hp
  have h1 : (headSpec ws rm).pre.before a A.U = true := atoms_intro fun w hw => hws w hw _ _ X.warmed
  have h2 : (Cond.code y bytes maxL ret).before a A.U = true := hws _ hcode _ _ X.warmed
  have h3 : (Cond.initialized y.cls).before a A.U = true := hinit _ _ X.warmed
  have h4 : A.cells + (headSpec ws rm).room.cells ≤ R.cells := by rw [show (headSpec ws rm).room.cells = mc from hrc]; exact hp.1
  have h5 : A.slots + (headSpec ws rm).room.slots ≤ R.slots := by rw [show (headSpec ws rm).room.slots = ms from hrs]; exact hp.2.1
  have hPc : Pc a (A.U.calling g mk a) := hblind _ _ _ _ hp.2.2
  obtain ⟨U, Ls, c0, s0⟩ := A
  dsimp only [Pt.U, Pt.locs, Pt.cells, Pt.slots] at h1 h2 h3 h4 h5 X hn hPc ⊢
  obtain ⟨methY, cY, hmY, hcY, -, hlY, -, -, -, -⟩ := Cond.code_spec hn h2
  obtain ⟨kY, hkY, -⟩ := className_of_methodNamed hn
  have hinitY : kY.init = .initialized := Cond.initialized_spec (findClass_of_methodNamed hn) hkY h3
  have h : At U g.method c below := by rw [hg]; exact X.here
  have hlocals9 : W9 + (maxL + 11) + (headSpec ws rm).room.locals ≤ R.locals := hlocals
  have happ : (headSpec ws rm).appliesLoose y e.platform (U.calling g mk a) = true :=
    Spec.appliesLoose_calling (g := g) h hdg hn hkY hinitY
      (X.room_calling (g := g) (R' := (headSpec ws rm).room) hsize hmY hcY hframes (by rw [hlY]; omega) h4 h5) h1
  obtain ⟨mid, hmid⟩ := h.above
  have hfr : (U.setTop g).frames = (.java g :: mid) ++ below := by rw [State.frames_setTop' g h.top, hmid]; rfl
  obtain ⟨o, s₂, hsteps, -, hend, hq⟩ := Steps.callFree hM p X.admits X.cas X.clock (acts := []) hfr happ hPc trivial
  have hq' : vx_Q Qc XC mc ms free a (U.calling g mk a) o s₂ := hq
  rw [State.frames_setTop' g h.top] at hend
  obtain ⟨g₀, hg0⟩ := Option.isSome_iff_exists.mp h.top
  obtain ⟨r, hr⟩ := State.topJava?_eq_some.mp hg0
  have hr' : (({ U with heap := s₂.heap, slotsUsed := s₂.slotsUsed } : State).setVm s₂.vm).frames = .java g₀ :: r := hr
  rcases hq' with ⟨hqc, L, hfe, hL⟩ | ⟨q, rfl, E, ce, L, hx, hce, hcv, hcl, hW₂, hsm, hL⟩
  · obtain ⟨⟨v, rfl⟩, hW₂, e2, q2, q3, q4, q5, q6⟩ := id hfe
    have e3 : s₂ = ({ (U.calling g mk a).setFrames s₂.frames with heap := s₂.heap, slotsUsed := s₂.slotsUsed } : State).setVm s₂.vm := by
      have : s₂ = ({ s₂ with vm := (U.calling g mk a).vm } : State).setVm s₂.vm := rfl
      rw [e2] at this
      exact this
    obtain ⟨c₂, i₂, len₂, hc₂, hd₂, hf₂⟩ := hend
    have hW' : U.WarmedH s₂.vm := hW₂
    have hcc : c₂ = c := by
      have h1 : s₂.code? g.method = U.code? g.method := by
        rw [State.code?_eq, State.code?_eq, hW'.alike.method?]
      exact Option.some.inj (hc₂.symm.trans (h1.trans h.code))
    subst hcc
    have hlen : len₂ = len := by rw [hdg] at hd₂; cases hd₂; rfl
    subst hlen
    have hs₂ : s₂ = (({ U with heap := s₂.heap, slotsUsed := s₂.slotsUsed } : State).setVm s₂.vm).setTop { g with pc := g.pc + len₂, stack := v.toList ++ g.stack } := by
      refine e3.trans ?_
      rw [hf₂, State.calling_eq h.top, State.setFrames_setFrames, State.setTop_of_frames _ hr', hr]
      rfl
    have hsame : U.sameButNew ({ U with heap := s₂.heap, slotsUsed := s₂.slotsUsed } : State) L mc ms := by
      refine ⟨?_, q2, q3, q4, q5, q6⟩
      obtain ⟨t, ht, -⟩ := State.frames_cons hr
      show ({ U with heap := s₂.heap, slotsUsed := s₂.slotsUsed } : State) = { U.setFrames U.frames with heap := s₂.heap, slotsUsed := s₂.slotsUsed }
      rw [State.setFrames_self ht]
    subst hg
    refine Or.inl ⟨v, ⟨(({ U with heap := s₂.heap, slotsUsed := s₂.slotsUsed } : State).setVm s₂.vm), Ls ++ L, c0 + mc, s0 + ms⟩,
      ⟨X.admits, X.cas, X.clock, X.frames, X.room, X.hears, X.method, X.code, (X.here.setHeapUsed s₂.heap s₂.slotsUsed).setVm hW'.alike, X.tail, State.WarmedH.trans X.warmed hW', X.limits, X.bytes, X.same.trans (hsame.setVm s.vm)⟩,
      ⟨g, mk, s₂, L, rfl, rfl, hqc, rfl, hL, rfl, rfl⟩, ?_⟩
    show Steps p.tables e below _ ((({ U with heap := s₂.heap, slotsUsed := s₂.slotsUsed } : State).setVm s₂.vm).setTop { g with pc := g.pc + len₂, stack := v.toList ++ g.stack })
    rw [← hs₂]
    exact hsteps
  · obtain ⟨e2, q2, q3, q4, q5, q6⟩ := id hsm
    have e3 : s₂ = ({ (U.calling g mk a).setFrames s₂.frames with heap := s₂.heap, slotsUsed := s₂.slotsUsed } : State).setVm s₂.vm := by
      have : s₂ = ({ s₂ with vm := (U.calling g mk a).vm } : State).setVm s₂.vm := rfl
      rw [e2] at this
      exact this
    have hf₂ : s₂.frames = .throwing q :: .java g :: U.frames.tail := hend
    have hW' : U.WarmedH s₂.vm := hW₂
    have hs₂ : s₂ = ((({ U with heap := s₂.heap, slotsUsed := s₂.slotsUsed } : State).setVm s₂.vm).setTop g).pushFrame (.throwing q) := by
      refine e3.trans ?_
      rw [hf₂, State.calling_eq h.top, State.setFrames_setFrames, State.pushFrame, State.frames_setTop _ hr', State.setTop_of_frames _ hr', State.setFrames_setFrames, hr]
      rfl
    have hsame : U.sameButNew ({ U with heap := s₂.heap, slotsUsed := s₂.slotsUsed } : State) L mc ms := by
      refine ⟨?_, q2, q3, q4, q5, q6⟩
      obtain ⟨t, ht, -⟩ := State.frames_cons hr
      show ({ U with heap := s₂.heap, slotsUsed := s₂.slotsUsed } : State) = { U.setFrames U.frames with heap := s₂.heap, slotsUsed := s₂.slotsUsed }
      rw [State.setFrames_self ht]
    subst hg
    refine Or.inr ⟨q, ⟨(({ U with heap := s₂.heap, slotsUsed := s₂.slotsUsed } : State).setVm s₂.vm), Ls ++ L, c0 + mc, s0 + ms⟩,
      ⟨X.admits, X.cas, X.clock, X.frames, X.room, X.hears, X.method, X.code, (X.here.setHeapUsed s₂.heap s₂.slotsUsed).setVm hW'.alike, X.tail, State.WarmedH.trans X.warmed hW', X.limits, X.bytes, X.same.trans (hsame.setVm s.vm)⟩,
      ⟨g, mk, s₂, L, E, ce, rfl, rfl, hx, hce, hcv, hcl, rfl, hL, rfl, rfl⟩, ?_⟩
    show Steps p.tables e below _ (((({ U with heap := s₂.heap, slotsUsed := s₂.slotsUsed } : State).setVm s₂.vm).setTop g).pushFrame (.throwing q))
    rw [← hs₂]
    exact hsteps
end Payer
section Calls
variable {p : Program} {l : Launch} {e : Env} {R : Room} {s : State} {m : MethodId} {args : Array Value} {below : List Frame} {meth : Method} {c : Code} {T : State} {locs : List Loc} {cells slots : Nat}
theorem vx_callV (X : Stand p l e R s m args below meth c T locs cells slots) (hexec : p.tables.exec = Jvm.exec) {own C : String} {index : Nat} {y : MethodName} {bytes : ByteArray} {maxL : Nat} {ret : Option FieldType}
    (hown : s.vm.findClass own = some m.cls) (hlink : (Cond.methodLink own index y).before args s = true) (hinst : (Cond.instanceMethod y).before args s = true) (hsel : (Cond.selects C y y).before args s = true)
    (hcode : (Cond.code y bytes maxL ret).before args s = true) (hy : y.cls ≠ "java/lang/invoke/MethodHandle" ∧ y.cls ≠ "java/lang/invoke/VarHandle")
    {W9 : Nat} {Pre : Pt → Array Value → Prop} {Post : Pt → Array Value → Option Value → Pt → Prop} {PostX : Pt → Array Value → Addr → Pt → Prop} (hK : vx_Back l R p e below s args y 3 W9 Pre Post PostX)
    {b : Addr} {cellB : Cell} (hcell : T.heap[b]? = some cellB) (hobj : cellB.vm.isStatics = false) (hcls : s.vm.findClass C = some cellB.cls)
    {g : JFrame} (hg : g.method = m) (hsize : g.locals.size = c.maxLocals) {argsL rest : List Value} (hlen : ∀ sig, parseMethodDescriptor y.desc = some sig → argsL.length = sig.parameters.length)
    (hstack : g.stack = argsL.reverse ++ .ref b :: rest) (hW : 2 * g.monitorRoom + (rest.map fun v => v.category).sum ≤ W9) (hdg : decode c.code g.pc = .ok (.invokevirtual index, 3))
    (hpre : ∀ vm₁, s.WarmedH vm₁ → Pre ⟨T.setVm vm₁, locs, cells, slots⟩ (Value.ref b :: argsL).toArray) :
    (∃ (v : Option Value) (vm₁ : Vm) (B : Pt), s.WarmedH vm₁ ∧ Stand p l e R s m args below meth c B.U B.locs B.cells B.slots ∧ Post ⟨T.setVm vm₁, locs, cells, slots⟩ (Value.ref b :: argsL).toArray v B ∧
      ∀ target, Steps p.tables e below (B.U.setTop { g with pc := g.pc + 3, stack := v.toList ++ rest }) target → Steps p.tables e below (T.setTop g) target) ∨
    (∃ (q : Addr) (vm₁ : Vm) (B : Pt), s.WarmedH vm₁ ∧ Stand p l e R s m args below meth c B.U B.locs B.cells B.slots ∧ PostX ⟨T.setVm vm₁, locs, cells, slots⟩ (Value.ref b :: argsL).toArray q B ∧
      Steps p.tables e below (T.setTop g) ((B.U.setTop { g with stack := rest }).pushFrame (.throwing q))) := by
  obtain ⟨mk, methM, hnamed, hmethM, hstM, habM⟩ := Cond.instanceMethod_spec hinst
  obtain ⟨methM', cM, hmethM', -, -, -, -, -, -, hsigM⟩ := Cond.code_spec hnamed hcode
  cases hmethM.symm.trans hmethM'
  obtain ⟨c2, r2, m2, q1, q2, q3, q4, kP, hkP, hkPi⟩ := Cond.selects_spec hsel
  cases hcls.symm.trans q1
  cases (State.methodFound?_of_named hnamed hy).symm.trans q2
  cases hnamed.symm.trans q3
  have hselP : selectMethod e.platform s.vm cellB.cls mk = .method mk := by rw [Launch.admits_selectMethod X.admits]; exact q4
  obtain ⟨vm₁, X₁, hstep₁⟩ := X.invokevirtual hexec hown hlink hnamed hmethM hstM hkP hkPi hy (a := b) (cell := cellB) hcell
    (fun z h => by rw [h] at hobj; cases hobj) hselP hmethM habM hkP hkPi (g := g) hg (argsL := argsL) (rest := rest) (hlen _ hsigM) hstack hdg
  rcases hK m meth c ⟨T.setVm vm₁, locs, cells, slots⟩ { g with stack := rest } (.invokevirtual index) mk (Value.ref b :: argsL).toArray X₁ hg hsize hdg hW (X₁.named hnamed) (hpre vm₁ X₁.warmed) with ⟨v, B, X', hpost, hsteps⟩ | ⟨q, B, X', hpost, hsteps⟩
  · exact Or.inl ⟨v, vm₁, B, X₁.warmed, X', hpost, fun target h => hstep₁ _ fun acts => by rw [doInvoke_state]; exact hsteps.trans h⟩
  · exact Or.inr ⟨q, vm₁, B, X₁.warmed, X', hpost, hstep₁ _ fun acts => by rw [doInvoke_state]; exact hsteps⟩
theorem vx_callS (X : Stand p l e R s m args below meth c T locs cells slots) (hexec : p.tables.exec = Jvm.exec) {own : String} {index : Nat} {y : MethodName} {bytes : ByteArray} {maxL : Nat} {ret : Option FieldType}
    (hown : s.vm.findClass own = some m.cls) (hlink : (Cond.methodLink own index y).before args s = true) (hstat : (Cond.static y).before args s = true) (hinit : (Cond.initialized y.cls).before args s = true)
    (hcode : (Cond.code y bytes maxL ret).before args s = true) (hy : y.cls ≠ "java/lang/invoke/MethodHandle" ∧ y.cls ≠ "java/lang/invoke/VarHandle")
    {W9 : Nat} {Pre : Pt → Array Value → Prop} {Post : Pt → Array Value → Option Value → Pt → Prop} {PostX : Pt → Array Value → Addr → Pt → Prop} (hK : vx_Back l R p e below s args y 3 W9 Pre Post PostX)
    {g : JFrame} (hg : g.method = m) (hsize : g.locals.size = c.maxLocals) {argsL rest : List Value} (hlen : ∀ sig, parseMethodDescriptor y.desc = some sig → argsL.length = sig.parameters.length)
    (hstack : g.stack = argsL.reverse ++ rest) (hW : 2 * g.monitorRoom + (rest.map fun v => v.category).sum ≤ W9) (hdg : decode c.code g.pc = .ok (.invokestatic index, 3))
    (hpre : ∀ vm₁, s.WarmedH vm₁ → Pre ⟨T.setVm vm₁, locs, cells, slots⟩ argsL.toArray) :
    (∃ (v : Option Value) (vm₁ : Vm) (B : Pt), s.WarmedH vm₁ ∧ Stand p l e R s m args below meth c B.U B.locs B.cells B.slots ∧ Post ⟨T.setVm vm₁, locs, cells, slots⟩ argsL.toArray v B ∧
      ∀ target, Steps p.tables e below (B.U.setTop { g with pc := g.pc + 3, stack := v.toList ++ rest }) target → Steps p.tables e below (T.setTop g) target) ∨
    (∃ (q : Addr) (vm₁ : Vm) (B : Pt), s.WarmedH vm₁ ∧ Stand p l e R s m args below meth c B.U B.locs B.cells B.slots ∧ PostX ⟨T.setVm vm₁, locs, cells, slots⟩ argsL.toArray q B ∧
      Steps p.tables e below (T.setTop g) ((B.U.setTop { g with stack := rest }).pushFrame (.throwing q))) := by
  obtain ⟨mk, hnamed⟩ := Cond.code_named hcode
  obtain ⟨methM, cM, hmethM, -, -, -, -, -, -, hsigM⟩ := Cond.code_spec hnamed hcode
  have hstatic : methM.isStatic = true := Cond.static_spec hnamed hmethM hstat
  obtain ⟨kP, hkP, -⟩ := className_of_methodNamed hnamed
  have hinitP : kP.init = .initialized := Cond.initialized_spec (findClass_of_methodNamed hnamed) hkP hinit
  obtain ⟨vm₁, X₁, hstep₁⟩ := X.invokestatic hexec hown hlink hnamed hmethM hstatic hkP hinitP hy (g := g) hg (argsL := argsL) (rest := rest) (hlen _ hsigM) hstack hdg
  rcases hK m meth c ⟨T.setVm vm₁, locs, cells, slots⟩ { g with stack := rest } (.invokestatic index) mk argsL.toArray X₁ hg hsize hdg hW (X₁.named hnamed) (hpre vm₁ X₁.warmed) with ⟨v, B, X', hpost, hsteps⟩ | ⟨q, B, X', hpost, hsteps⟩
  · exact Or.inl ⟨v, vm₁, B, X₁.warmed, X', hpost, fun target h => hstep₁ _ fun acts => by rw [doInvoke_state]; exact hsteps.trans h⟩
  · exact Or.inr ⟨q, vm₁, B, X₁.warmed, X', hpost, hstep₁ _ fun acts => by rw [doInvoke_state]; exact hsteps⟩
end Calls
theorem vx_cls {s : State} {T : State} {vm₁ : Vm} {E : String} {k : ClassId} (hW : s.WarmedH vm₁) (h : (T.setVm vm₁).vm.findClass E = some k) : s.vm.findClass E = some k := by
  have h1 : vm₁.findClass E = some k := h
  rw [hW.alike.findClass] at h1
  exact h1
/-- the method's frame g, with q thrown over it -/
def vx_W (p : Program) (l : Launch) (e : Env) (R : Room) (s : State) (m : MethodId) (args : Array Value) (below : List Frame) (meth : Method) (c : Code) (H : Heap) (locs : List Loc) (cells slots : Nat) (Q : State → Prop) (g : JFrame) (q : Addr) : Prop :=
  ∀ T : State, T.heap = H → Stand p l e R s m args below meth c T locs cells slots → ∃ t, Steps p.tables e below ((T.setTop g).pushFrame (.throwing q)) t ∧ Q t
def vx_Run (p : Program) (l : Launch) (e : Env) (R : Room) (s : State) (m : MethodId) (args : Array Value) (below : List Frame) (meth : Method) (c : Code) (H : Heap) (locs : List Loc) (cells slots mc ms : Nat) (g : JFrame) (rest : List Value) (Qa : State → Outcome → State → Prop) (XC : String → State → State → Prop) (free : Addr → Prop) : Prop :=
  ∀ T : State, T.heap = H → Stand p l e R s m args below meth c T locs cells slots →
    (∃ (v : Option Value) (st₀ t T' : State) (L : List Loc), st₀.heap = H ∧ Stand p l e R s m args below meth c T' (locs ++ L) (cells + mc) (slots + ms) ∧ (∀ q ∈ L, free q.base) ∧ T'.heap = t.heap ∧ T'.vm = t.vm ∧ Qa st₀ (.returned v) t ∧
      Goes p e below T g T' { g with pc := g.pc + 3, stack := v.toList ++ rest }) ∨
    (∃ (q : Addr) (st₀ t T' : State) (L : List Loc) (E : String) (ce : Cell), st₀.heap = H ∧ Stand p l e R s m args below meth c T' (locs ++ L) (cells + mc) (slots + ms) ∧ (∀ z ∈ L, free z.base) ∧ T'.heap = t.heap ∧ T'.vm = t.vm ∧ XC E st₀ t ∧ t.heap[q]? = some ce ∧ ce.vm = .none ∧ s.vm.findClass E = some ce.cls ∧
      Steps p.tables e below (T.setTop g) ((T'.setTop { g with stack := rest }).pushFrame (.throwing q)))
def vx_X {S : Type} (px : S → Prop) (B : String → S → State → Prop) (A : Nat → Prop) : String → State → State → Prop := fun E st t => ∃ u : S, px u ∧ B E u t ∧ va_F A st t
section Runs
variable {p : Program} {l : Launch} {e : Env} {R : Room} {s : State} {m : MethodId} {args : Array Value} {below : List Frame} {meth : Method} {c : Code} {H : Heap} {locs : List Loc} {cells slots : Nat}
variable {y : MethodName} {bytes cc : ByteArray} {maxL nL mc ms n index : Nat} {ret : Option FieldType} {ws : List Cond} {rm : Room} {Pc : Array Value → State → Prop} {Qc : Array Value → State → Outcome → State → Prop} {XC : String → State → State → Prop} {free : Addr → Prop} {Ts : List Cond} {own C : String} {b : Addr} {As rest : List Value} {g : JFrame}
theorem vx_callBack (cb : CallB R s args own index y bytes maxL ret ws rm mc ms n) (hM : vx_Met l y ws rm Pc Qc XC mc ms free) (hbl : FrameBlind Pc) : vx_Back l R p e below s args y 3 8 (PreOf R mc ms Pc) (PostOf Qc mc ms free) (vx_Post XC mc ms free) := by
  obtain ⟨hrc, hrs, hfr, hlo, hws, hcw, -, hini, -⟩ := cb
  exact vx_back (bytes := bytes) (maxL := maxL) (ret := ret) hM hbl hrc hrs hfr hlo hws hcw (fun a' U hW => word_at hW (Or.inl (by first | rfl | simp [Cond.onTables, Cond.keeps, Cond.steady])) hini)
theorem vx_runV (S : CallFix p m c cc nL s args Ts own) (hM : vx_Met l y ws rm Pc Qc XC mc ms free) (cw : CallW R s args own C index y bytes maxL ret ws rm mc ms n) (hp : PreV s H C b Pc As)
    (hg : g.method = m) (hn : As.length = n) (hsize : g.locals.size = nL) (hstack : g.stack = As.reverse ++ .ref b :: rest) (hW : 2 * g.monitorRoom + (rest.map fun v => v.category).sum ≤ 8) (hdg : decode cc g.pc = .ok (.invokevirtual index, 3)) (hf : cells + mc ≤ R.cells ∧ slots + ms ≤ R.slots) :
    vx_Run p l e R s m args below meth c H locs cells slots mc ms g rest (Qc (Value.ref b :: As).toArray) XC free := by
  have hK : vx_Back l R p e below s args y 3 8 (PreOf R mc ms Pc) (PostOf Qc mc ms free) (vx_Post XC mc ms free) := vx_callBack cw.1 hM hp.1
  obtain ⟨⟨-, -, -, -, -, -, hcode, -, hy, hlen, hl⟩, hin, hse⟩ := cw
  obtain ⟨hx, hb, hml, ho, -⟩ := S
  obtain ⟨-, ⟨cellB, hcB, hoB, hclB⟩, hPc⟩ := hp
  intro T hT X
  rcases vx_callV X hx (C := C) (bytes := bytes) (maxL := maxL) (ret := ret) ho hl hin hse hcode hy hK (by rw [hT]; exact hcB) hoB hclB hg (hsize.trans hml.symm) (argsL := As) (rest := rest) (fun sig h => hn.trans (hlen sig h)) hstack hW (by rw [hb]; exact hdg)
    (fun vm₁ hW₁ => ⟨hf.1, hf.2, hPc (T.setVm vm₁) hT hW₁⟩) with ⟨v, vm₁, ⟨U', l2, c2, s2⟩, hW₁, X', ⟨g', mk, t, L, e1, e2, hq, h1, hL, h2, h3⟩, st⟩ | ⟨q, vm₁, ⟨U', l2, c2, s2⟩, hW₁, X', ⟨g', mk, t, L, E, ce, e1, e2, hq, hce, hcv, hcl, h1, hL, h2, h3⟩, st⟩
  · dsimp only [Pt.U, Pt.locs, Pt.cells, Pt.slots] at X' e1 e2 h1 h2 h3 st
    subst h1; subst h2; subst h3
    exact Or.inl ⟨v, (T.setVm vm₁).calling g' mk (Value.ref b :: As).toArray, t, U', L, hT, X', hL, e1, e2, hq, st⟩
  · dsimp only [Pt.U, Pt.locs, Pt.cells, Pt.slots] at X' e1 e2 h1 h2 h3 st hcl
    subst h1; subst h2; subst h3
    exact Or.inr ⟨q, (T.setVm vm₁).calling g' mk (Value.ref b :: As).toArray, t, U', L, E, ce, hT, X', hL, e1, e2, hq, hce, hcv, vx_cls hW₁ hcl, st⟩
theorem vx_runS (S : CallFix p m c cc nL s args Ts own) (hM : vx_Met l y ws rm Pc Qc XC mc ms free) (cw : CallB R s args own index y bytes maxL ret ws rm mc ms n ∧ (Cond.static y).before args s = true) (hp : PreS s H Pc As)
    (hg : g.method = m) (hn : As.length = n) (hsize : g.locals.size = nL) (hstack : g.stack = As.reverse ++ rest) (hW : 2 * g.monitorRoom + (rest.map fun v => v.category).sum ≤ 8) (hdg : decode cc g.pc = .ok (.invokestatic index, 3)) (hf : cells + mc ≤ R.cells ∧ slots + ms ≤ R.slots) :
    vx_Run p l e R s m args below meth c H locs cells slots mc ms g rest (Qc As.toArray) XC free := by
  have hK : vx_Back l R p e below s args y 3 8 (PreOf R mc ms Pc) (PostOf Qc mc ms free) (vx_Post XC mc ms free) := vx_callBack cw.1 hM hp.1
  obtain ⟨⟨-, -, -, -, -, -, hcode, hini, hy, hlen, hl⟩, hstt⟩ := cw
  obtain ⟨hx, hb, hml, ho, -⟩ := S
  intro T hT X
  rcases vx_callS X hx (bytes := bytes) (maxL := maxL) (ret := ret) ho hl hstt hini hcode hy hK hg (hsize.trans hml.symm) (argsL := As) (rest := rest) (fun sig h => hn.trans (hlen sig h)) hstack hW (by rw [hb]; exact hdg)
    (fun vm₁ hW₁ => ⟨hf.1, hf.2, hp.2 (T.setVm vm₁) hT hW₁⟩) with ⟨v, vm₁, ⟨U', l2, c2, s2⟩, hW₁, X', ⟨g', mk, t, L, e1, e2, hq, h1, hL, h2, h3⟩, st⟩ | ⟨q, vm₁, ⟨U', l2, c2, s2⟩, hW₁, X', ⟨g', mk, t, L, E, ce, e1, e2, hq, hce, hcv, hcl, h1, hL, h2, h3⟩, st⟩
  · dsimp only [Pt.U, Pt.locs, Pt.cells, Pt.slots] at X' e1 e2 h1 h2 h3 st
    subst h1; subst h2; subst h3
    exact Or.inl ⟨v, (T.setVm vm₁).calling g' mk As.toArray, t, U', L, hT, X', hL, e1, e2, hq, st⟩
  · dsimp only [Pt.U, Pt.locs, Pt.cells, Pt.slots] at X' e1 e2 h1 h2 h3 st hcl
    subst h1; subst h2; subst h3
    exact Or.inr ⟨q, (T.setVm vm₁).calling g' mk As.toArray, t, U', L, E, ce, hT, X', hL, e1, e2, hq, hce, hcv, vx_cls hW₁ hcl, st⟩
end Runs
section Rows
variable {p : Program} {l : Launch} {e : Env} {R : Room} {s : State} {m : MethodId} {args : Array Value} {below : List Frame} {meth : Method} {c : Code} {H : Heap} {locs : List Loc} {cells slots : Nat} {Q : State → Prop}
variable {mc ms : Nat} {free : Addr → Prop} {A0 A1 : Nat → Prop} {H0 : Heap} {a : Array Value} {pc : Nat} {ls : Array Slot} {st0 rest : List Value}
theorem vx_keep {st₀ t T' : State} {L : List Loc} (h0 : st₀.heap = H) (e1 : T'.heap = t.heap) (hS : va_S A0 H0 H locs) (hA : ∀ q, q < H.size → A1 q → A0 q) (hf : ∀ q, free q → A0 q) (hL : ∀ q ∈ L, free q.base) (hF : va_F A1 st₀ t) :
    H.size ≤ T'.heap.size ∧ (∀ q : Nat, q < H.size → ¬ A1 q → T'.heap[q]? = H[q]?) ∧ va_S A0 H0 T'.heap (locs ++ L) := by
  obtain ⟨hz, hk⟩ := hF
  rw [h0] at hz hk
  exact ⟨by rw [e1]; exact hz, fun q h1 h2 => by rw [e1]; exact hk q h1 h2,
    ⟨Nat.le_trans hS.1 (by rw [e1]; exact hz), fun q h1 h2 => by rw [e1, hk q (Nat.lt_of_lt_of_le h1 hS.1) (fun z => h2 (hA q (Nat.lt_of_lt_of_le h1 hS.1) z))]; exact hS.2.1 q h1 h2, fun q hq => by
      rcases List.mem_append.mp hq with h | h
      · exact hS.2.2 q h
      · exact hf _ (hL q h)⟩⟩
theorem vx_calli {S SX : Type} {post : Int32 → S → Prop} {px : SX → Prop} {B : S → State → Prop} {BX : String → SX → State → Prop} {AX : Nat → Prop} (hr : vx_Run p l e R s m args below meth c H locs cells slots mc ms (F0 m pc ls st0) rest (va_Qi post B A1 a) (vx_X px BX AX) free) (hS : va_S A0 H0 H locs) (hA : ∀ q, q < H.size → A1 q → A0 q) (hf : ∀ q, free q → A0 q) (hAX : ∀ q, q < H.size → AX q → A0 q)
    (kx : ∀ (E : String) (ce : Cell) (q9 : Addr) (u : SX) (t : State) (H1 : Heap) (locs1 : List Loc), t.heap = H1 → s.vm.Alike t.vm → px u → BX E u t → H.size ≤ H1.size → (∀ q : Nat, q < H.size → ¬ AX q → H1[q]? = H[q]?) → va_S A0 H0 H1 locs1 → H1[q9]? = some ce → ce.vm = .none → s.vm.findClass E = some ce.cls → vx_W p l e R s m args below meth c H1 locs1 (cells + mc) (slots + ms) Q (F0 m pc ls rest) q9)
    (kk : ∀ (r : Int32) (u : S) (t : State) (H1 : Heap) (locs1 : List Loc), t.heap = H1 → s.vm.Alike t.vm → post r u → B u t → H.size ≤ H1.size → (∀ q : Nat, q < H.size → ¬ A1 q → H1[q]? = H[q]?) → va_S A0 H0 H1 locs1 → W p l e R s m args below meth c H1 locs1 (cells + mc) (slots + ms) Q (F0 m (pc + 3) ls (.int r :: rest))) : W p l e R s m args below meth c H locs cells slots Q (F0 m pc ls st0) := by
  intro T hT X
  rcases hr T hT X with ⟨v, st₀, t, T', L, h0, X', hL, e1, e2, ⟨⟨r, u, hv, hp, hb⟩, hF⟩, st⟩ | ⟨q, st₀, t, T', L, E, ce, h0, X', hL, e1, e2, ⟨u, hp, hb, hF⟩, hce, hcv, hcl, st⟩
  · cases hv
    obtain ⟨k1, k2, k3⟩ := vx_keep h0 e1 hS hA hf hL hF
    obtain ⟨t2, a1, b1⟩ := kk r u t T'.heap (locs ++ L) e1.symm (by rw [← e2]; exact X'.warmed.alike) hp hb k1 k2 k3 T' rfl X'
    exact ⟨t2, st t2 a1, b1⟩
  · obtain ⟨k1, k2, k3⟩ := vx_keep h0 e1 hS hAX hf hL hF
    obtain ⟨t2, a1, b1⟩ := kx E ce q u t T'.heap (locs ++ L) e1.symm (by rw [← e2]; exact X'.warmed.alike) hp hb k1 k2 k3 (by rw [e1]; exact hce) hcv hcl T' rfl X'
    exact ⟨t2, st.trans a1, b1⟩
theorem vx_calll {S SX : Type} {post : Int64 → S → Prop} {px : SX → Prop} {B : S → State → Prop} {BX : String → SX → State → Prop} {AX : Nat → Prop} (hr : vx_Run p l e R s m args below meth c H locs cells slots mc ms (F0 m pc ls st0) rest (va_Ql post B A1 a) (vx_X px BX AX) free) (hS : va_S A0 H0 H locs) (hA : ∀ q, q < H.size → A1 q → A0 q) (hf : ∀ q, free q → A0 q) (hAX : ∀ q, q < H.size → AX q → A0 q)
    (kx : ∀ (E : String) (ce : Cell) (q9 : Addr) (u : SX) (t : State) (H1 : Heap) (locs1 : List Loc), t.heap = H1 → s.vm.Alike t.vm → px u → BX E u t → H.size ≤ H1.size → (∀ q : Nat, q < H.size → ¬ AX q → H1[q]? = H[q]?) → va_S A0 H0 H1 locs1 → H1[q9]? = some ce → ce.vm = .none → s.vm.findClass E = some ce.cls → vx_W p l e R s m args below meth c H1 locs1 (cells + mc) (slots + ms) Q (F0 m pc ls rest) q9)
    (kk : ∀ (r : Int64) (u : S) (t : State) (H1 : Heap) (locs1 : List Loc), t.heap = H1 → s.vm.Alike t.vm → post r u → B u t → H.size ≤ H1.size → (∀ q : Nat, q < H.size → ¬ A1 q → H1[q]? = H[q]?) → va_S A0 H0 H1 locs1 → W p l e R s m args below meth c H1 locs1 (cells + mc) (slots + ms) Q (F0 m (pc + 3) ls (.long r :: rest))) : W p l e R s m args below meth c H locs cells slots Q (F0 m pc ls st0) := by
  intro T hT X
  rcases hr T hT X with ⟨v, st₀, t, T', L, h0, X', hL, e1, e2, ⟨⟨r, u, hv, hp, hb⟩, hF⟩, st⟩ | ⟨q, st₀, t, T', L, E, ce, h0, X', hL, e1, e2, ⟨u, hp, hb, hF⟩, hce, hcv, hcl, st⟩
  · cases hv
    obtain ⟨k1, k2, k3⟩ := vx_keep h0 e1 hS hA hf hL hF
    obtain ⟨t2, a1, b1⟩ := kk r u t T'.heap (locs ++ L) e1.symm (by rw [← e2]; exact X'.warmed.alike) hp hb k1 k2 k3 T' rfl X'
    exact ⟨t2, st t2 a1, b1⟩
  · obtain ⟨k1, k2, k3⟩ := vx_keep h0 e1 hS hAX hf hL hF
    obtain ⟨t2, a1, b1⟩ := kx E ce q u t T'.heap (locs ++ L) e1.symm (by rw [← e2]; exact X'.warmed.alike) hp hb k1 k2 k3 (by rw [e1]; exact hce) hcv hcl T' rfl X'
    exact ⟨t2, st.trans a1, b1⟩
theorem vx_callf {S SX : Type} {post : UInt32 → S → Prop} {px : SX → Prop} {B : S → State → Prop} {BX : String → SX → State → Prop} {AX : Nat → Prop} (hr : vx_Run p l e R s m args below meth c H locs cells slots mc ms (F0 m pc ls st0) rest (va_Qf post B A1 a) (vx_X px BX AX) free) (hS : va_S A0 H0 H locs) (hA : ∀ q, q < H.size → A1 q → A0 q) (hf : ∀ q, free q → A0 q) (hAX : ∀ q, q < H.size → AX q → A0 q)
    (kx : ∀ (E : String) (ce : Cell) (q9 : Addr) (u : SX) (t : State) (H1 : Heap) (locs1 : List Loc), t.heap = H1 → s.vm.Alike t.vm → px u → BX E u t → H.size ≤ H1.size → (∀ q : Nat, q < H.size → ¬ AX q → H1[q]? = H[q]?) → va_S A0 H0 H1 locs1 → H1[q9]? = some ce → ce.vm = .none → s.vm.findClass E = some ce.cls → vx_W p l e R s m args below meth c H1 locs1 (cells + mc) (slots + ms) Q (F0 m pc ls rest) q9)
    (kk : ∀ (r : UInt32) (u : S) (t : State) (H1 : Heap) (locs1 : List Loc), t.heap = H1 → s.vm.Alike t.vm → post r u → B u t → H.size ≤ H1.size → (∀ q : Nat, q < H.size → ¬ A1 q → H1[q]? = H[q]?) → va_S A0 H0 H1 locs1 → W p l e R s m args below meth c H1 locs1 (cells + mc) (slots + ms) Q (F0 m (pc + 3) ls (.float r :: rest))) : W p l e R s m args below meth c H locs cells slots Q (F0 m pc ls st0) := by
  intro T hT X
  rcases hr T hT X with ⟨v, st₀, t, T', L, h0, X', hL, e1, e2, ⟨⟨r, u, hv, hp, hb⟩, hF⟩, st⟩ | ⟨q, st₀, t, T', L, E, ce, h0, X', hL, e1, e2, ⟨u, hp, hb, hF⟩, hce, hcv, hcl, st⟩
  · cases hv
    obtain ⟨k1, k2, k3⟩ := vx_keep h0 e1 hS hA hf hL hF
    obtain ⟨t2, a1, b1⟩ := kk r u t T'.heap (locs ++ L) e1.symm (by rw [← e2]; exact X'.warmed.alike) hp hb k1 k2 k3 T' rfl X'
    exact ⟨t2, st t2 a1, b1⟩
  · obtain ⟨k1, k2, k3⟩ := vx_keep h0 e1 hS hAX hf hL hF
    obtain ⟨t2, a1, b1⟩ := kx E ce q u t T'.heap (locs ++ L) e1.symm (by rw [← e2]; exact X'.warmed.alike) hp hb k1 k2 k3 (by rw [e1]; exact hce) hcv hcl T' rfl X'
    exact ⟨t2, st.trans a1, b1⟩
theorem vx_calld {S SX : Type} {post : UInt64 → S → Prop} {px : SX → Prop} {B : S → State → Prop} {BX : String → SX → State → Prop} {AX : Nat → Prop} (hr : vx_Run p l e R s m args below meth c H locs cells slots mc ms (F0 m pc ls st0) rest (va_Qd post B A1 a) (vx_X px BX AX) free) (hS : va_S A0 H0 H locs) (hA : ∀ q, q < H.size → A1 q → A0 q) (hf : ∀ q, free q → A0 q) (hAX : ∀ q, q < H.size → AX q → A0 q)
    (kx : ∀ (E : String) (ce : Cell) (q9 : Addr) (u : SX) (t : State) (H1 : Heap) (locs1 : List Loc), t.heap = H1 → s.vm.Alike t.vm → px u → BX E u t → H.size ≤ H1.size → (∀ q : Nat, q < H.size → ¬ AX q → H1[q]? = H[q]?) → va_S A0 H0 H1 locs1 → H1[q9]? = some ce → ce.vm = .none → s.vm.findClass E = some ce.cls → vx_W p l e R s m args below meth c H1 locs1 (cells + mc) (slots + ms) Q (F0 m pc ls rest) q9)
    (kk : ∀ (r : UInt64) (u : S) (t : State) (H1 : Heap) (locs1 : List Loc), t.heap = H1 → s.vm.Alike t.vm → post r u → B u t → H.size ≤ H1.size → (∀ q : Nat, q < H.size → ¬ A1 q → H1[q]? = H[q]?) → va_S A0 H0 H1 locs1 → W p l e R s m args below meth c H1 locs1 (cells + mc) (slots + ms) Q (F0 m (pc + 3) ls (.double r :: rest))) : W p l e R s m args below meth c H locs cells slots Q (F0 m pc ls st0) := by
  intro T hT X
  rcases hr T hT X with ⟨v, st₀, t, T', L, h0, X', hL, e1, e2, ⟨⟨r, u, hv, hp, hb⟩, hF⟩, st⟩ | ⟨q, st₀, t, T', L, E, ce, h0, X', hL, e1, e2, ⟨u, hp, hb, hF⟩, hce, hcv, hcl, st⟩
  · cases hv
    obtain ⟨k1, k2, k3⟩ := vx_keep h0 e1 hS hA hf hL hF
    obtain ⟨t2, a1, b1⟩ := kk r u t T'.heap (locs ++ L) e1.symm (by rw [← e2]; exact X'.warmed.alike) hp hb k1 k2 k3 T' rfl X'
    exact ⟨t2, st t2 a1, b1⟩
  · obtain ⟨k1, k2, k3⟩ := vx_keep h0 e1 hS hAX hf hL hF
    obtain ⟨t2, a1, b1⟩ := kx E ce q u t T'.heap (locs ++ L) e1.symm (by rw [← e2]; exact X'.warmed.alike) hp hb k1 k2 k3 (by rw [e1]; exact hce) hcv hcl T' rfl X'
    exact ⟨t2, st.trans a1, b1⟩
theorem vx_callv {S SX : Type} {post : S → Prop} {px : SX → Prop} {B : S → State → Prop} {BX : String → SX → State → Prop} {AX : Nat → Prop} (hr : vx_Run p l e R s m args below meth c H locs cells slots mc ms (F0 m pc ls st0) rest (va_Qv post B A1 a) (vx_X px BX AX) free) (hS : va_S A0 H0 H locs) (hA : ∀ q, q < H.size → A1 q → A0 q) (hf : ∀ q, free q → A0 q) (hAX : ∀ q, q < H.size → AX q → A0 q)
    (kx : ∀ (E : String) (ce : Cell) (q9 : Addr) (u : SX) (t : State) (H1 : Heap) (locs1 : List Loc), t.heap = H1 → s.vm.Alike t.vm → px u → BX E u t → H.size ≤ H1.size → (∀ q : Nat, q < H.size → ¬ AX q → H1[q]? = H[q]?) → va_S A0 H0 H1 locs1 → H1[q9]? = some ce → ce.vm = .none → s.vm.findClass E = some ce.cls → vx_W p l e R s m args below meth c H1 locs1 (cells + mc) (slots + ms) Q (F0 m pc ls rest) q9)
    (kk : ∀ (u : S) (t : State) (H1 : Heap) (locs1 : List Loc), t.heap = H1 → s.vm.Alike t.vm → post u → B u t → H.size ≤ H1.size → (∀ q : Nat, q < H.size → ¬ A1 q → H1[q]? = H[q]?) → va_S A0 H0 H1 locs1 → W p l e R s m args below meth c H1 locs1 (cells + mc) (slots + ms) Q (F0 m (pc + 3) ls (rest))) : W p l e R s m args below meth c H locs cells slots Q (F0 m pc ls st0) := by
  intro T hT X
  rcases hr T hT X with ⟨v, st₀, t, T', L, h0, X', hL, e1, e2, ⟨⟨u, hv, hp, hb⟩, hF⟩, st⟩ | ⟨q, st₀, t, T', L, E, ce, h0, X', hL, e1, e2, ⟨u, hp, hb, hF⟩, hce, hcv, hcl, st⟩
  · cases hv
    obtain ⟨k1, k2, k3⟩ := vx_keep h0 e1 hS hA hf hL hF
    obtain ⟨t2, a1, b1⟩ := kk u t T'.heap (locs ++ L) e1.symm (by rw [← e2]; exact X'.warmed.alike) hp hb k1 k2 k3 T' rfl X'
    exact ⟨t2, st t2 a1, b1⟩
  · obtain ⟨k1, k2, k3⟩ := vx_keep h0 e1 hS hAX hf hL hF
    obtain ⟨t2, a1, b1⟩ := kx E ce q u t T'.heap (locs ++ L) e1.symm (by rw [← e2]; exact X'.warmed.alike) hp hb k1 k2 k3 (by rw [e1]; exact hce) hcv hcl T' rfl X'
    exact ⟨t2, st.trans a1, b1⟩
/-- caught by the row x of this method's table; the rows ahead don't take it -/
theorem vx_catch {own name : String} {E : String} {ce : Cell} {q : Addr} (hown : s.vm.findClass own = some m.cls) (pre : List ExceptionTableEntry) (x : ExceptionTableEntry) (suf : List ExceptionTableEntry) (hsplit : c.exceptionTable.toList = pre ++ x :: suf)
    (hpass : ∀ z ∈ pre, covers z pc = false ∨ (z.catchType ≠ 0 ∧ ∃ nm : String, (Cond.classLink own z.catchType nm).before args s = true ∧ va_Nc E nm s)) (hx : covers x pc = true) (h0 : x.catchType ≠ 0)
    (hlink : (Cond.classLink own x.catchType name).before args s = true) (hcast : (Cond.castable E name).before args s = true) (hcell : H[q]? = some ce) (hv : ce.vm = .none) (hcl : s.vm.findClass E = some ce.cls)
    (kk : W p l e R s m args below meth c H locs cells slots Q (F0 m x.handlerPc ls [.ref q])) : vx_W p l e R s m args below meth c H locs cells slots Q (F0 m pc ls rest) q := by
  intro T hT X
  have hpl : e.platform.magicAccessors = ({} : Platform).magicAccessors := by rw [X.admits.platform]
  obtain ⟨c3, c4, hc3, hc4, hasg⟩ := Cond.castable_spec hcast
  cases Option.some.inj (hc3.symm.trans hcl)
  obtain ⟨c5, hc5, hcl5⟩ := Cond.classLink_spec hown hlink e.platform hpl
  cases Option.some.inj (hc4.symm.trans hc5)
  obtain ⟨vm', X', st⟩ := X.thenCaughtThrough q (g := F0 m pc ls rest) rfl (Steps.refl _) (by rw [hT]; exact hcell) (by rw [hv]; rfl) (by obtain ⟨k9, h9, -⟩ := Vm.findClass_spec hcl; exact ⟨k9, h9⟩) pre x suf hsplit
    (fun z hz => by
      rcases hpass z hz with h | ⟨hz0, nm, hl1, hn1⟩
      · exact Or.inl h
      · obtain ⟨c6, hc6, hcl6⟩ := Cond.classLink_spec hown hl1 e.platform hpl
        obtain ⟨a8, b8, h1, h2, h3⟩ := hn1
        cases Option.some.inj (h1.symm.trans hcl)
        cases Option.some.inj (h2.symm.trans hc6)
        exact Or.inr ⟨hz0, _, hcl6, h3⟩) hx (Or.inr ⟨h0, c4, hcl5, hasg⟩)
  obtain ⟨t, a1, b1⟩ := kk (T.setVm vm') hT X'
  exact ⟨t, st.trans a1, b1⟩
end Rows
section Ends
variable {p : Program} {l : Launch} {e : Env} {R : Room} {s : State} {m : MethodId} {args : Array Value} {below : List Frame} {meth : Method} {c : Code} {H : Heap} {locs : List Loc} {cells slots : Nat} {Q : State → Prop}
variable {mc ms : Nat} {free : Addr → Prop} {A0 A1 : Nat → Prop} {H0 : Heap} {a : Array Value} {ls : Array Slot} {st0 rest : List Value}
variable {Qc : Array Value → State → Outcome → State → Prop} {XC : String → State → State → Prop}
/-- what a body that may throw owes at its end -/
def vx_MQ (below : List Frame) (Qc : Array Value → State → Outcome → State → Prop) (XC : String → State → State → Prop) (a : Array Value) (s : State) (mc ms : Nat) (free : Addr → Prop) : State → Prop := fun t =>
  ∃ o, t.status = .running ∧ Ended t below o ∧ vx_Q Qc XC mc ms free a s o t
theorem vx_ret {g : JFrame} {mc ms : Nat} (k : W p l e R s m args below meth c H locs cells slots (MQ below Qc args s mc ms free) g) : W p l e R s m args below meth c H locs cells slots (vx_MQ below Qc XC args s mc ms free) g := by
  intro T hT X
  obtain ⟨t, a1, o, b1, b2, b3, b4⟩ := k T hT X
  exact ⟨t, a1, o, b1, b2, Or.inl ⟨b3, b4⟩⟩
/-- not caught here: it goes on to the caller -/
theorem vx_widen {g : JFrame} {q : Addr} {k n : Nat} (h1 : cells ≤ k) (h2 : slots ≤ n) (kk : vx_W p l e R s m args below meth c H locs k n Q g q) : vx_W p l e R s m args below meth c H locs cells slots Q g q := fun T hT X => kk T hT (stand_widen X h1 h2)
theorem vx_out {pc : Nat} {E : String} {ce : Cell} {q : Addr} {mc ms : Nat} (hout : ∀ x ∈ c.exceptionTable.toList, covers x pc = false) (hlocks : meth.locks = false) (hcell : H[q]? = some ce) (hv : ce.vm = .none) (hcl : s.vm.findClass E = some ce.cls)
    (hx : ∀ t : State, t.heap = H → s.vm.Alike t.vm → XC E s t) (hf : ∀ z ∈ locs, free z.base) (hc : cells ≤ mc) (hs : slots ≤ ms) :
    vx_W p l e R s m args below meth c H locs cells slots (vx_MQ below Qc XC args s mc ms free) (F0 m pc ls rest) q := by
  intro T hT X
  obtain ⟨st1, hrun, hend, hW, hsm⟩ := X.leaveThrown q (g := F0 m pc ls rest) rfl rfl rfl hout hlocks
  have hcell9 : (T.setFrames (.throwing q :: below)).heap[q]? = some ce := by
    show T.heap[q]? = some ce
    rw [hT]; exact hcell
  exact ⟨_, st1, .threw q, hrun, hend, Or.inr ⟨q, rfl, E, ce, locs, hx _ hT hW.alike, hcell9, hv, hcl, hW, hsm.mono hc hs, hf⟩⟩
theorem vx_frame {U : State} {k n : Nat} (h : s.sameButNew ({ U with vm := s.vm } : State) locs k n) : s.heap.size ≤ U.heap.size ∧ ∀ q : Nat, q < s.heap.size → (∀ z ∈ locs, z.base ≠ q) → U.heap[q]? = s.heap[q]? := by
  obtain ⟨-, h2, -, -, -, h6⟩ := h
  refine ⟨h2, fun q hq hz => ?_⟩
  obtain ⟨c9, e1, e2, e3, e4⟩ := h6 q _ (Array.getElem?_eq_getElem hq)
  have hs : c9.slots = (s.heap[q]).slots := Array.ext_getElem? fun i => e4 i fun hm => hz _ hm rfl
  have h9 : c9 = s.heap[q] := by
    rw [hs] at e2
    exact e2
  have e5 : U.heap[q]? = some c9 := e1
  rw [e5, h9, Array.getElem?_eq_getElem hq]
/-- the words of a throw but the four that speak of the heap -/
def vx_no (w : Cond) : Bool := decide (w ≠ .isRef (.static Bundle.tN "UNASSIGNED_STACK" Bundle.steD)) && decide (w ≠ .isRef (.static Bundle.tN "SUPPRESSED_SENTINEL" Bundle.listD)) && decide (w ≠ .laysStatic Bundle.tN "UNASSIGNED_STACK" Bundle.steD) && decide (w ≠ .laysStatic Bundle.tN "SUPPRESSED_SENTINEL" Bundle.listD)
def vx_at0 (own : String) (ic : Nat) (X : String) (names : List String) : List Cond := (Bundle.ownAtoms0 own ic X names).filter vx_no
def vx_atS (own : String) (ic : Nat) (X : String) (names : List String) : List Cond := (Bundle.ownAtoms own ic X names).filter vx_no
/-- a word that the tables alone decide, or a good one -/
def vx_ot (w : Cond) : Bool := w.onTables || goodWord w
theorem vx_ot_at {args a' : Array Value} {s U : State} {w : Cond} (hW : s.WarmedH U.vm) (hvm : s.vm = U.vm) (hg : vx_ot w = true) (h : w.before args s = true) : w.before a' U = true := by
  simp only [vx_ot, Bool.or_eq_true] at hg
  rcases hg with hg | hg
  · exact va_tabs hg hvm h
  · exact word_at hW (good_of_word hg) h
/-- a list's words: the good ones out of the method's own list, the others by premises of their own -/
theorem vx_hat {args : Array Value} {s : State} {L B : List Cond} (h1 : ∀ w ∈ L.filter goodWord, w.before args s = true) (h2 : ∀ w ∈ L.filter (fun w => !goodWord w), w ∈ B) (h3 : ∀ w ∈ B, w.before args s = true) : ∀ w ∈ L, w.before args s = true := by
  intro w hw
  by_cases g : goodWord w = true
  · exact h1 w (List.mem_filter.mpr ⟨hw, g⟩)
  · refine h3 w (h2 w (List.mem_filter.mpr ⟨hw, ?_⟩))
    show (!goodWord w) = true
    cases hgw : goodWord w
    · rfl
    · exact absurd hgw g
theorem vx_c {args : Array Value} {s : State} {w : Cond} {B : List Cond} (h : w.before args s = true) (t : ∀ w ∈ B, w.before args s = true) : ∀ w' ∈ w :: B, w'.before args s = true := fun w' h' => (List.mem_cons.mp h').elim (fun e => by rw [e]; exact h) (t w')
theorem vx_n {args : Array Value} {s : State} : ∀ w ∈ ([] : List Cond), w.before args s = true := fun _ h => nomatch h
theorem vx_own {args : Array Value} {s : State} {L : List Cond} (h1 : ∀ w ∈ L.filter vx_no, w.before args s = true)
    (hU : (Cond.isRef (.static Bundle.tN "UNASSIGNED_STACK" Bundle.steD)).before args s = true) (hN : (Cond.isRef (.static Bundle.tN "SUPPRESSED_SENTINEL" Bundle.listD)).before args s = true)
    (lU : (Cond.laysStatic Bundle.tN "UNASSIGNED_STACK" Bundle.steD).before args s = true) (lN : (Cond.laysStatic Bundle.tN "SUPPRESSED_SENTINEL" Bundle.listD).before args s = true) : ∀ w ∈ L, w.before args s = true := by
  intro w hw
  by_cases e1 : w = .isRef (.static Bundle.tN "UNASSIGNED_STACK" Bundle.steD)
  · rw [e1]; exact hU
  · by_cases e2 : w = .isRef (.static Bundle.tN "SUPPRESSED_SENTINEL" Bundle.listD)
    · rw [e2]; exact hN
    · by_cases e3 : w = .laysStatic Bundle.tN "UNASSIGNED_STACK" Bundle.steD
      · rw [e3]; exact lU
      · by_cases e4 : w = .laysStatic Bundle.tN "SUPPRESSED_SENTINEL" Bundle.listD
        · rw [e4]; exact lN
        · exact h1 w (List.mem_filter.mpr ⟨hw, by unfold vx_no; rw [decide_eq_true e1, decide_eq_true e2, decide_eq_true e3, decide_eq_true e4]; rfl⟩)
/-- where a static field lies, its class's statics cell in H -/
def vx_L (C n d : String) (A : Nat → Prop) (U : State) (H : Heap) : Prop := ∃ (c : ClassId) (k : Class) (i : Nat) (f : Field) (a : Nat) (cell : Cell), U.vm.findClass C = some c ∧ U.fieldFound? C n d = some (c, k, i, f) ∧ f.isStatic = true ∧ k.statics = some a ∧ H[a]? = some cell ∧ cell.vm.isStatics = true ∧ cell.cls = c ∧ f.slot < cell.slots.size ∧ k.staticTypes[f.slot]? = some f.type ∧ ¬ A a
theorem vx_L.moved {C n d : String} {A : Nat → Prop} {u U : State} {H : Heap} (hvm : u.vm.Alike U.vm) (h : vx_L C n d A u H) : vx_L C n d A U H := by
  obtain ⟨c, k, i, f, a, cell, h1, h2, h3, h4, h5, h6, h7, h8, h9, h10⟩ := h
  obtain ⟨k', hi', he⟩ := State.fieldFound?_setVm hvm h2
  exact ⟨c, k', i, f, a, cell, by rw [hvm.findClass]; exact h1, hi', h3, by rw [he]; exact h4, h5, h6, h7, h8, by rw [he]; exact h9, h10⟩
theorem vx_L.kept {C n d : String} {A : Nat → Prop} {U : State} {H H1 : Heap} (h : vx_L C n d A U H) (hq : ∀ a : Nat, a < H.size → ¬ A a → H1[a]? = H[a]?) : vx_L C n d A U H1 := by
  obtain ⟨c, k, i, f, a, cell, h1, h2, h3, h4, h5, h6, h7, h8, h9, h10⟩ := h
  exact ⟨c, k, i, f, a, cell, h1, h2, h3, h4, by rw [hq a (Array.getElem?_eq_some_iff.mp h5).1 h10]; exact h5, h6, h7, h8, h9, h10⟩
theorem vx_L.narrow {C n d : String} {A B : Nat → Prop} {U : State} {H : Heap} (h : vx_L C n d A U H) (hAB : ∀ q, B q → A q) : vx_L C n d B U H := by
  obtain ⟨c, k, i, f, a, cell, h1, h2, h3, h4, h5, h6, h7, h8, h9, h10⟩ := h
  exact ⟨c, k, i, f, a, cell, h1, h2, h3, h4, h5, h6, h7, h8, h9, fun z => h10 (hAB _ z)⟩
theorem vx_L.word {C n d : String} {A : Nat → Prop} {s : State} {args : Array Value} (h : vx_L C n d A s s.heap) : (Cond.laysStatic C n d).before args s = true := by
  obtain ⟨c, k, i, f, a, cell, h1, h2, h3, h4, h5, h6, h7, h8, h9, -⟩ := h
  show (Cond.laysStatic C n d).holds args s none s [] = true
  exact Cond.laysStatic_of h1 h2 h3 h4 h5 h6 h7 h8 h9
/-- .. and what it holds: null or some reference -/
def vx_Zq (C n d : String) (A : Nat → Prop) (U : State) (H : Heap) : Prop := va_Zq C n d A U H ∧ vx_L C n d A U H
theorem vx_Zq.moved {C n d : String} {A : Nat → Prop} {u U : State} {H : Heap} (hvm : u.vm.Alike U.vm) (h : vx_Zq C n d A u H) : vx_Zq C n d A U H := ⟨va_Zq.moved hvm h.1, vx_L.moved hvm h.2⟩
theorem vx_Zq.kept {C n d : String} {A : Nat → Prop} {U : State} {H H1 : Heap} (h : vx_Zq C n d A U H) (hq : ∀ a : Nat, a < H.size → ¬ A a → H1[a]? = H[a]?) : vx_Zq C n d A U H1 := ⟨va_Zq.kept h.1 hq, vx_L.kept h.2 hq⟩
theorem vx_Zq.narrow {C n d : String} {A B : Nat → Prop} {U : State} {H : Heap} (h : vx_Zq C n d A U H) (hAB : ∀ q, B q → A q) : vx_Zq C n d B U H := ⟨va_Zq.narrow h.1 hAB, vx_L.narrow h.2 hAB⟩
theorem vx_Zqof {args : Array Value} {s : State} {C n d : String} {A : Nat → Prop} (hl : (Cond.laysStatic C n d).before args s = true) (hini : (Cond.initialized C).before args s = true) (h : (Cond.isRef (.static C n d)).before args s = true) (hA : ∀ a : Nat, a < s.heap.size → ¬ A a) : vx_Zq C n d A s s.heap := by
  refine ⟨va_Zqof hl hini h hA, ?_⟩
  obtain ⟨c, k, i, f, a, cell, h1, h2, h3, h4, h5, h6, h7, h8, h9⟩ := Cond.laysStatic_spec hl
  exact ⟨c, k, i, f, a, cell, h1, h2, h3, h4, h5, h6, h7, h8, h9, hA a (Array.getElem?_eq_some_iff.mp h5).1⟩
theorem vx_isRef {C n d : String} {v : Value} {A : Nat → Prop} {s : State} {args : Array Value} (h : va_Z C n d v A s s.heap) (hv : v.isRef = true) : (Cond.isRef (.static C n d)).before args s = true := by
  obtain ⟨cf, kf, fi, f, a, cell, h1, h2, h3, h4, h5, h6, h7, -⟩ := h
  have he : (Term.static C n d).eval args s none [] s = some v := by
    simp [Term.eval, State.fieldNamed?, h1, h2, h4, h5, h6, h7]
  simp only [Cond.before, Cond.holds, Cond.value, he]
  cases v <;> simp_all [Value.isRef]
theorem vx_isRefq {C n d : String} {A : Nat → Prop} {s : State} {args : Array Value} (h : va_Zq C n d A s s.heap) : (Cond.isRef (.static C n d)).before args s = true := by
  rcases h with h | ⟨t, h⟩
  · exact vx_isRef h rfl
  · exact vx_isRef h rfl
/-- the same frame, seen from here: as if the method were called anew in this heap -/
theorem vx_rebase {T : State} (X : Stand p l e R s m args below meth c T locs cells slots) {R' : Room} (hf : R'.frames ≤ R.frames) (hl : R'.locals ≤ R.locals) (hc : cells + R'.cells ≤ R.cells) (hs : slots + R'.slots ≤ R.slots) :
    Stand p l e R' ((T.setVm s.vm).setFrames (.invoking m args :: below)) m args below meth c T [] 0 0 := by
  have htop : (T.setVm s.vm).topJava?.isSome := X.here.top
  have hF : ((T.setVm s.vm).setFrames (.invoking m args :: below)).frames = .invoking m args :: below := State.frames_setFrames _ (State.cur_lt_of_top htop)
  obtain ⟨g₀, hg0⟩ := Option.isSome_iff_exists.mp htop
  obtain ⟨r, hr⟩ := State.topJava?_eq_some.mp hg0
  have hl9 : e.platform.stackLimits (T.setVm s.vm).me = e.platform.stackLimits s.me := X.limits
  have hb9 : (T.setVm s.vm).me.stackBytes = s.me.stackBytes := X.bytes
  refine ⟨X.admits, X.cas, X.clock, hF, ?_, X.hears, X.method, X.code, X.here, X.tail, X.warmed, ?_, ?_, ?_⟩
  · have h := X.room
    have hU : ((T.setVm s.vm).setFrames (.invoking m args :: below)).localsInUse = s.localsInUse := by
      rw [State.localsInUse_invoking hF (meth := meth) (c := c) X.method X.code, State.localsInUse_invoking X.frames X.method X.code]
    simp only [State.hasRoom, Bool.and_eq_true, decide_eq_true_eq] at h ⊢
    obtain ⟨⟨⟨⟨h1, h2, h3, h4, h5, h6⟩, h7⟩, h8⟩, h9⟩ := h
    rw [X.frames, List.length_cons] at h2 h3
    have q1 := X.heapSize
    have q2 := X.used
    simp only [hF, hU, List.length_cons, State.stackLimits_setFrames, State.stackBytes_setFrames, hl9, hb9]
    refine ⟨⟨⟨⟨by omega, by omega, by omega, by omega, by omega, h6⟩, ?_⟩, ?_⟩, X.book⟩
    · show T.heap.size + R'.cells ≤ e.platform.maxCells
      omega
    · show T.slotsUsed + R'.slots ≤ e.platform.maxSlots
      omega
  · rw [State.stackLimits_setFrames]; rfl
  · rw [State.stackBytes_setFrames]; rfl
  · refine ⟨?_, Nat.le_refl _, Nat.le_refl _, ?_, ?_, fun a c9 h9 => ⟨c9, h9, rfl, rfl, fun _ _ => rfl⟩⟩
    · obtain ⟨t, ht, -⟩ := State.frames_cons hr
      show T.setVm s.vm = { ((T.setVm s.vm).setFrames (.invoking m args :: below)).setFrames (T.setVm s.vm).frames with heap := T.heap, slotsUsed := T.slotsUsed }
      rw [State.setFrames_setFrames, State.setFrames_self ht]
      rfl
    · show T.slotsUsed = T.slotsUsed + ((T.heap.toList.drop T.heap.size).map (·.slots.size)).sum
      rw [List.drop_eq_nil_of_le (Nat.le_of_eq Array.length_toList)]
      rfl
    · show ((T.heap.toList.drop T.heap.size).map (·.slots.size)).sum ≤ 0
      rw [List.drop_eq_nil_of_le (Nat.le_of_eq Array.length_toList)]
      exact Nat.le_refl _
/-- 'throw new E()': new; dup; invokespecial; athrow -/
theorem vx_throw0 {cc : ByteArray} {pc : Nat} (hexec : p.tables.exec = Jvm.exec) (hb : c.code = cc) (hl : l.stackTraces = false) {own cls : String} {names : List String} {ik ic mc ms : Nat} {A : Nat → Prop}
    (hown : s.vm.findClass own = some m.cls) (hcls : Bundle.fit cls = true) (hnames : ∀ n ∈ names, Bundle.fit n = true)
    (hk : (Cond.classLink own ik cls).before args s = true) (hini : (Cond.initialized cls).before args s = true) (hat : ∀ w ∈ vx_at0 own ic cls names, w.before args s = true)
    (hgood : ∀ w ∈ Cond.classLink own ik cls :: Cond.initialized cls :: vx_at0 own ic cls names, vx_ot w = true)
    (hU : vx_Zq Bundle.tN "UNASSIGNED_STACK" Bundle.steD A s s.heap) (hN : vx_Zq Bundle.tN "SUPPRESSED_SENTINEL" Bundle.listD A s s.heap) (hS : va_S A s.heap H locs) (hsize : ls.size = c.maxLocals)
    (d0 : decode cc pc = .ok (.new ik, 3)) (d3 : decode cc (pc + 3) = .ok (.dup, 1)) (d4 : decode cc (pc + 4) = .ok (.invokespecial ic, 3)) (d7 : decode cc (pc + 7) = .ok (.athrow, 1))
    (hout : ∀ x ∈ c.exceptionTable.toList, covers x (pc + 7) = false)
    (hRframes : names.length + 3 < R.frames) (hRlocals : (rest.map fun v => v.category).sum + (13 * (names.length + 1) + 42) ≤ R.locals) (hRcells : cells + 1 ≤ R.cells) (hRslots : slots + 6 ≤ R.slots) (hlocks : meth.locks = false)
    (hx : ∀ t : State, s.vm.Alike t.vm → H.size ≤ t.heap.size → (∀ q : Nat, q < H.size → t.heap[q]? = H[q]?) → XC cls s t)
    (hf : ∀ z ∈ locs, free z.base) (hc : cells + 1 ≤ mc) (hs : slots + 6 ≤ ms) :
    W p l e R s m args below meth c H locs cells slots (vx_MQ below Qc XC args s mc ms free) (F0 m pc ls rest) := by
  intro T hT X
  have htr : e.platform.stackTraces = false := (show e.platform.stackTraces = l.stackTraces by rw [X.admits.platform]).trans hl
  have Y := vx_rebase X (R' := { frames := R.frames, locals := R.locals, cells := 1, slots := 6 }) (Nat.le_refl _) (Nat.le_refl _) hRcells hRslots
  obtain ⟨s', hA⟩ : ∃ z, z = (T.setVm s.vm).setFrames (.invoking m args :: below) := ⟨_, rfl⟩
  rw [← hA] at Y
  have hvm : s'.vm = s.vm := by rw [hA]; rfl
  have hhp : s'.heap = H := by rw [hA]; exact hT
  have hW0 : s.WarmedH s'.vm := by rw [hvm]; exact State.WarmedH.refl s
  have hat' : ∀ w ∈ vx_at0 own ic cls names, w.before args s' = true := fun w hw => vx_ot_at hW0 hvm.symm (hgood w (List.mem_cons_of_mem _ (List.mem_cons_of_mem _ hw))) (hat w hw)
  have hk' : (Cond.classLink own ik cls).before args s' = true := vx_ot_at hW0 hvm.symm (hgood _ List.mem_cons_self) hk
  have hini' : (Cond.initialized cls).before args s' = true := vx_ot_at hW0 hvm.symm (hgood _ (List.mem_cons_of_mem _ List.mem_cons_self)) hini
  have hU' : vx_Zq Bundle.tN "UNASSIGNED_STACK" Bundle.steD A s' s'.heap := by rw [hhp]; exact vx_Zq.moved hW0.alike (hU.kept hS.2.1)
  have hN' : vx_Zq Bundle.tN "SUPPRESSED_SENTINEL" Bundle.listD A s' s'.heap := by rw [hhp]; exact vx_Zq.moved hW0.alike (hN.kept hS.2.1)
  have h : ∀ w ∈ Bundle.ownAtoms0 own ic cls names, w.before args s' = true := vx_own hat' (vx_isRefq hU'.1) (vx_isRefq hN'.1) hU'.2.word hN'.2.word
  have hown' : s'.vm.findClass own = some m.cls := by rw [hvm]; exact hown
  have hins : (Cond.instantiable cls 6).before args s' = true := h _ (by simp [Bundle.ownAtoms0])
  obtain ⟨vm₁, cX, kX, hfX, hkX, -, -, X₁, st1⟩ := Y.newCold hexec (own := own) (C := cls) (index := ik) (n := 6) hown' hk' hins hini'
    (g := F0 m pc ls rest) rfl (by rw [hb]; exact d0) (Nat.le_refl _) (Nat.le_refl _)
  generalize hT1 : (T.setVm vm₁).pushCell { cls := cX, slots := kX.instanceTypes.map defaultValue, vm := .none } = T1 at X₁ st1
  have hcat : (Value.ref T.heap.size).category = 1 := rfl
  have hcellA : T1.heap[T.heap.size]? = some (freshCell cX kX) := by rw [← hT1]; exact State.heap_pushCell_size _ _
  have d3' : decode c.code (pc + 3) = .ok (.dup, 1) := by rw [hb]; exact d3
  obtain ⟨U, hsteps, hrun, hend, hW, hsame, ce, hce, hO⟩ := X₁.ctorThrow0 hexec htr (own := own) (cls := cls) (names := names) (ic := ic) hown' hcls hnames h (fun x hx => nomatch hx) hfX hkX hcellA (by rw [hhp, hT]; exact Nat.le_refl _)
    (g := { method := m, pc := pc + 4, locals := ls, stack := .ref T.heap.size :: .ref T.heap.size :: rest, locked := none }) rfl hsize rfl rfl (rest := rest) rfl
    (by rw [hb]; exact d4) (by rw [hb]; exact d7) hout hRframes (by simp only [List.map_cons, List.sum_cons, hcat]; omega) hlocks
  obtain ⟨f1, f2⟩ := vx_frame hsame
  rw [hhp] at f1 f2
  have hWs : s.WarmedH U.vm := State.WarmedH.trans hW0 hW
  have hcl : s.vm.findClass cls = some ce.cls := by
    have h9 := hO.cls
    rw [hvm] at h9
    exact h9
  have hall : s.sameButNew ({ U with vm := s.vm } : State) locs mc ms := by
    subst hA
    obtain ⟨e1, e2⟩ := hsame
    rw [State.setFrames_setFrames] at e1
    have h2 : (T.setVm s.vm).sameButNew ({ U with vm := s.vm } : State) [] (0 + 1) (0 + 6) := ⟨e1, e2⟩
    have h3 := X.same.trans h2
    rw [List.append_nil] at h3
    exact h3.mono hc hs
  refine ⟨U, ?_, .threw T.heap.size, hrun, hend, Or.inr ⟨T.heap.size, rfl, cls, ce, locs, hx U hWs.alike f1 (fun q hq => f2 q hq (fun z hz => nomatch hz)), hce, hO.vm, hcl, hWs, hall, hf⟩⟩
  refine st1 _ ?_
  show Steps p.tables e below (T1.setTop { method := m, pc := pc + 3, locals := ls, stack := .ref T.heap.size :: rest, locked := none }) _
  jvm_step X₁.here [X₁.here.top, hexec, d3', Value.category]
  exact hsteps
/-- 'throw new E("text")': new; dup; ldc; invokespecial; athrow -/
theorem vx_throwS {cc : ByteArray} {pc : Nat} (hexec : p.tables.exec = Jvm.exec) (hb : c.code = cc) (hl : l.stackTraces = false) {own cls text : String} {names : List String} {ik is ic mc ms sa : Nat} {A : Nat → Prop}
    (hown : s.vm.findClass own = some m.cls) (hcls : Bundle.fit cls = true) (hnames : ∀ n ∈ names, Bundle.fit n = true)
    (hk : (Cond.classLink own ik cls).before args s = true) (hini : (Cond.initialized cls).before args s = true) (hstr : vk_R own is text sa s) (hat : ∀ w ∈ vx_atS own ic cls names, w.before args s = true)
    (hgood : ∀ w ∈ Cond.classLink own ik cls :: Cond.initialized cls :: vx_atS own ic cls names, vx_ot w = true)
    (hU : vx_Zq Bundle.tN "UNASSIGNED_STACK" Bundle.steD A s s.heap) (hN : vx_Zq Bundle.tN "SUPPRESSED_SENTINEL" Bundle.listD A s s.heap) (hS : va_S A s.heap H locs) (hsize : ls.size = c.maxLocals)
    (d0 : decode cc pc = .ok (.new ik, 3)) (d3 : decode cc (pc + 3) = .ok (.dup, 1)) (d4 : decode cc (pc + 4) = .ok (.ldc is, 2)) (d6 : decode cc (pc + 6) = .ok (.invokespecial ic, 3)) (d9 : decode cc (pc + 9) = .ok (.athrow, 1))
    (hout : ∀ x ∈ c.exceptionTable.toList, covers x (pc + 9) = false)
    (hRframes : names.length + 3 < R.frames) (hRlocals : (rest.map fun v => v.category).sum + (13 * (names.length + 1) + 43) ≤ R.locals) (hRcells : cells + 1 ≤ R.cells) (hRslots : slots + 6 ≤ R.slots) (hlocks : meth.locks = false)
    (hx : ∀ t : State, s.vm.Alike t.vm → H.size ≤ t.heap.size → (∀ q : Nat, q < H.size → t.heap[q]? = H[q]?) → XC cls s t)
    (hf : ∀ z ∈ locs, free z.base) (hc : cells + 1 ≤ mc) (hs : slots + 6 ≤ ms) :
    W p l e R s m args below meth c H locs cells slots (vx_MQ below Qc XC args s mc ms free) (F0 m pc ls rest) := by
  intro T hT X
  have htr : e.platform.stackTraces = false := (show e.platform.stackTraces = l.stackTraces by rw [X.admits.platform]).trans hl
  have Y := vx_rebase X (R' := { frames := R.frames, locals := R.locals, cells := 1, slots := 6 }) (Nat.le_refl _) (Nat.le_refl _) hRcells hRslots
  obtain ⟨s', hA⟩ : ∃ z, z = (T.setVm s.vm).setFrames (.invoking m args :: below) := ⟨_, rfl⟩
  rw [← hA] at Y
  have hvm : s'.vm = s.vm := by rw [hA]; rfl
  have hhp : s'.heap = H := by rw [hA]; exact hT
  have hW0 : s.WarmedH s'.vm := by rw [hvm]; exact State.WarmedH.refl s
  have hat' : ∀ w ∈ vx_atS own ic cls names, w.before args s' = true := fun w hw => vx_ot_at hW0 hvm.symm (hgood w (List.mem_cons_of_mem _ (List.mem_cons_of_mem _ hw))) (hat w hw)
  have hk' : (Cond.classLink own ik cls).before args s' = true := vx_ot_at hW0 hvm.symm (hgood _ List.mem_cons_self) hk
  have hini' : (Cond.initialized cls).before args s' = true := vx_ot_at hW0 hvm.symm (hgood _ (List.mem_cons_of_mem _ List.mem_cons_self)) hini
  have hU' : vx_Zq Bundle.tN "UNASSIGNED_STACK" Bundle.steD A s' s'.heap := by rw [hhp]; exact vx_Zq.moved hW0.alike (hU.kept hS.2.1)
  have hN' : vx_Zq Bundle.tN "SUPPRESSED_SENTINEL" Bundle.listD A s' s'.heap := by rw [hhp]; exact vx_Zq.moved hW0.alike (hN.kept hS.2.1)
  have h : ∀ w ∈ Bundle.ownAtoms own ic cls names, w.before args s' = true := vx_own hat' (vx_isRefq hU'.1) (vx_isRefq hN'.1) hU'.2.word hN'.2.word
  have hown' : s'.vm.findClass own = some m.cls := by rw [hvm]; exact hown
  have hins : (Cond.instantiable cls 6).before args s' = true := h _ (by simp [Bundle.ownAtoms])
  obtain ⟨vm₁, cX, kX, hfX, hkX, -, -, X₁, st1⟩ := Y.newCold hexec (own := own) (C := cls) (index := ik) (n := 6) hown' hk' hins hini'
    (g := F0 m pc ls rest) rfl (by rw [hb]; exact d0) (Nat.le_refl _) (Nat.le_refl _)
  generalize hT1 : (T.setVm vm₁).pushCell { cls := cX, slots := kX.instanceTypes.map defaultValue, vm := .none } = T1 at X₁ st1
  have hcat : (Value.ref T.heap.size).category = 1 := rfl
  have hcellA : T1.heap[T.heap.size]? = some (freshCell cX kX) := by rw [← hT1]; exact State.heap_pushCell_size _ _
  have d3' : decode c.code (pc + 3) = .ok (.dup, 1) := by rw [hb]; exact d3
  have d4' : decode c.code (pc + 4) = .ok (.ldc is, 2) := by rw [hb]; exact d4
  have hstr' : vk_R own is text sa s' := vk_R.warm hW0 hstr
  obtain ⟨U, hsteps, hrun, hend, hW, hsame, ce, hce, hO⟩ := X₁.ctorThrowS hexec htr (own := own) (cls := cls) (names := names) (ic := ic) hown' hcls hnames h (fun x hx => nomatch hx) hfX hkX hcellA (by rw [hhp, hT]; exact Nat.le_refl _) (msg := .ref sa) rfl
    (g := { method := m, pc := pc + 6, locals := ls, stack := .ref sa :: .ref T.heap.size :: .ref T.heap.size :: rest, locked := none }) rfl hsize rfl rfl (rest := rest) rfl
    (by rw [hb]; exact d6) (by rw [hb]; exact d9) hout hRframes (by simp only [List.map_cons, List.sum_cons, hcat]; omega) hlocks
  obtain ⟨f1, f2⟩ := vx_frame hsame
  rw [hhp] at f1 f2
  have hWs : s.WarmedH U.vm := State.WarmedH.trans hW0 hW
  have hcl : s.vm.findClass cls = some ce.cls := by
    have h9 := hO.cls
    rw [hvm] at h9
    exact h9
  have hall : s.sameButNew ({ U with vm := s.vm } : State) locs mc ms := by
    subst hA
    obtain ⟨e1, e2⟩ := hsame
    rw [State.setFrames_setFrames] at e1
    have h2 : (T.setVm s.vm).sameButNew ({ U with vm := s.vm } : State) [] (0 + 1) (0 + 6) := ⟨e1, e2⟩
    have h3 := X.same.trans h2
    rw [List.append_nil] at h3
    exact h3.mono hc hs
  refine ⟨U, ?_, .threw T.heap.size, hrun, hend, Or.inr ⟨T.heap.size, rfl, cls, ce, locs, hx U hWs.alike f1 (fun q hq => f2 q hq (fun z hz => nomatch hz)), hce, hO.vm, hcl, hWs, hall, hf⟩⟩
  refine st1 _ ?_
  show Steps p.tables e below (T1.setTop { method := m, pc := pc + 3, locals := ls, stack := .ref T.heap.size :: rest, locked := none }) _
  jvm_step X₁.here [X₁.here.top, hexec, d3', Value.category]
  exact X₁.ldcString hexec (own := own) (text := text) (index := is) (a := sa) hown' hstr'.1 hstr'.2
    (g := { method := m, pc := pc + 4, locals := ls, stack := .ref T.heap.size :: .ref T.heap.size :: rest, locked := none }) rfl d4' _ hsteps
/-- 'throw new E("text")', the text by a wide index -/
theorem vx_throwSW {cc : ByteArray} {pc : Nat} (hexec : p.tables.exec = Jvm.exec) (hb : c.code = cc) (hl : l.stackTraces = false) {own cls text : String} {names : List String} {ik is ic mc ms sa : Nat} {A : Nat → Prop}
    (hown : s.vm.findClass own = some m.cls) (hcls : Bundle.fit cls = true) (hnames : ∀ n ∈ names, Bundle.fit n = true)
    (hk : (Cond.classLink own ik cls).before args s = true) (hini : (Cond.initialized cls).before args s = true) (hstr : vk_R own is text sa s) (hat : ∀ w ∈ vx_atS own ic cls names, w.before args s = true)
    (hgood : ∀ w ∈ Cond.classLink own ik cls :: Cond.initialized cls :: vx_atS own ic cls names, vx_ot w = true)
    (hU : vx_Zq Bundle.tN "UNASSIGNED_STACK" Bundle.steD A s s.heap) (hN : vx_Zq Bundle.tN "SUPPRESSED_SENTINEL" Bundle.listD A s s.heap) (hS : va_S A s.heap H locs) (hsize : ls.size = c.maxLocals)
    (d0 : decode cc pc = .ok (.new ik, 3)) (d3 : decode cc (pc + 3) = .ok (.dup, 1)) (d4 : decode cc (pc + 4) = .ok (.ldc_w is, 3)) (d7 : decode cc (pc + 7) = .ok (.invokespecial ic, 3)) (d10 : decode cc (pc + 10) = .ok (.athrow, 1))
    (hout : ∀ x ∈ c.exceptionTable.toList, covers x (pc + 10) = false)
    (hRframes : names.length + 3 < R.frames) (hRlocals : (rest.map fun v => v.category).sum + (13 * (names.length + 1) + 43) ≤ R.locals) (hRcells : cells + 1 ≤ R.cells) (hRslots : slots + 6 ≤ R.slots) (hlocks : meth.locks = false)
    (hx : ∀ t : State, s.vm.Alike t.vm → H.size ≤ t.heap.size → (∀ q : Nat, q < H.size → t.heap[q]? = H[q]?) → XC cls s t)
    (hf : ∀ z ∈ locs, free z.base) (hc : cells + 1 ≤ mc) (hs : slots + 6 ≤ ms) :
    W p l e R s m args below meth c H locs cells slots (vx_MQ below Qc XC args s mc ms free) (F0 m pc ls rest) := by
  intro T hT X
  have htr : e.platform.stackTraces = false := (show e.platform.stackTraces = l.stackTraces by rw [X.admits.platform]).trans hl
  have Y := vx_rebase X (R' := { frames := R.frames, locals := R.locals, cells := 1, slots := 6 }) (Nat.le_refl _) (Nat.le_refl _) hRcells hRslots
  obtain ⟨s', hA⟩ : ∃ z, z = (T.setVm s.vm).setFrames (.invoking m args :: below) := ⟨_, rfl⟩
  rw [← hA] at Y
  have hvm : s'.vm = s.vm := by rw [hA]; rfl
  have hhp : s'.heap = H := by rw [hA]; exact hT
  have hW0 : s.WarmedH s'.vm := by rw [hvm]; exact State.WarmedH.refl s
  have hat' : ∀ w ∈ vx_atS own ic cls names, w.before args s' = true := fun w hw => vx_ot_at hW0 hvm.symm (hgood w (List.mem_cons_of_mem _ (List.mem_cons_of_mem _ hw))) (hat w hw)
  have hk' : (Cond.classLink own ik cls).before args s' = true := vx_ot_at hW0 hvm.symm (hgood _ List.mem_cons_self) hk
  have hini' : (Cond.initialized cls).before args s' = true := vx_ot_at hW0 hvm.symm (hgood _ (List.mem_cons_of_mem _ List.mem_cons_self)) hini
  have hU' : vx_Zq Bundle.tN "UNASSIGNED_STACK" Bundle.steD A s' s'.heap := by rw [hhp]; exact vx_Zq.moved hW0.alike (hU.kept hS.2.1)
  have hN' : vx_Zq Bundle.tN "SUPPRESSED_SENTINEL" Bundle.listD A s' s'.heap := by rw [hhp]; exact vx_Zq.moved hW0.alike (hN.kept hS.2.1)
  have h : ∀ w ∈ Bundle.ownAtoms own ic cls names, w.before args s' = true := vx_own hat' (vx_isRefq hU'.1) (vx_isRefq hN'.1) hU'.2.word hN'.2.word
  have hown' : s'.vm.findClass own = some m.cls := by rw [hvm]; exact hown
  have hins : (Cond.instantiable cls 6).before args s' = true := h _ (by simp [Bundle.ownAtoms])
  obtain ⟨vm₁, cX, kX, hfX, hkX, -, -, X₁, st1⟩ := Y.newCold hexec (own := own) (C := cls) (index := ik) (n := 6) hown' hk' hins hini'
    (g := F0 m pc ls rest) rfl (by rw [hb]; exact d0) (Nat.le_refl _) (Nat.le_refl _)
  generalize hT1 : (T.setVm vm₁).pushCell { cls := cX, slots := kX.instanceTypes.map defaultValue, vm := .none } = T1 at X₁ st1
  have hcat : (Value.ref T.heap.size).category = 1 := rfl
  have hcellA : T1.heap[T.heap.size]? = some (freshCell cX kX) := by rw [← hT1]; exact State.heap_pushCell_size _ _
  have d3' : decode c.code (pc + 3) = .ok (.dup, 1) := by rw [hb]; exact d3
  have d4' : decode c.code (pc + 4) = .ok (.ldc_w is, 3) := by rw [hb]; exact d4
  have hstr' : vk_R own is text sa s' := vk_R.warm hW0 hstr
  obtain ⟨U, hsteps, hrun, hend, hW, hsame, ce, hce, hO⟩ := X₁.ctorThrowS hexec htr (own := own) (cls := cls) (names := names) (ic := ic) hown' hcls hnames h (fun x hx => nomatch hx) hfX hkX hcellA (by rw [hhp, hT]; exact Nat.le_refl _) (msg := .ref sa) rfl
    (g := { method := m, pc := pc + 7, locals := ls, stack := .ref sa :: .ref T.heap.size :: .ref T.heap.size :: rest, locked := none }) rfl hsize rfl rfl (rest := rest) rfl
    (by rw [hb]; exact d7) (by rw [hb]; exact d10) hout hRframes (by simp only [List.map_cons, List.sum_cons, hcat]; omega) hlocks
  obtain ⟨f1, f2⟩ := vx_frame hsame
  rw [hhp] at f1 f2
  have hWs : s.WarmedH U.vm := State.WarmedH.trans hW0 hW
  have hcl : s.vm.findClass cls = some ce.cls := by
    have h9 := hO.cls
    rw [hvm] at h9
    exact h9
  have hall : s.sameButNew ({ U with vm := s.vm } : State) locs mc ms := by
    subst hA
    obtain ⟨e1, e2⟩ := hsame
    rw [State.setFrames_setFrames] at e1
    have h2 : (T.setVm s.vm).sameButNew ({ U with vm := s.vm } : State) [] (0 + 1) (0 + 6) := ⟨e1, e2⟩
    have h3 := X.same.trans h2
    rw [List.append_nil] at h3
    exact h3.mono hc hs
  refine ⟨U, ?_, .threw T.heap.size, hrun, hend, Or.inr ⟨T.heap.size, rfl, cls, ce, locs, hx U hWs.alike f1 (fun q hq => f2 q hq (fun z hz => nomatch hz)), hce, hO.vm, hcl, hWs, hall, hf⟩⟩
  refine st1 _ ?_
  show Steps p.tables e below (T1.setTop { method := m, pc := pc + 3, locals := ls, stack := .ref T.heap.size :: rest, locked := none }) _
  jvm_step X₁.here [X₁.here.top, hexec, d3', Value.category]
  exact X₁.ldcStringW hexec (own := own) (text := text) (index := is) (a := sa) hown' hstr'.1 hstr'.2
    (g := { method := m, pc := pc + 4, locals := ls, stack := .ref T.heap.size :: .ref T.heap.size :: rest, locked := none }) rfl d4' _ hsteps
end Ends
section Bodies
variable {l : Launch}
theorem vx_ofW {y : MethodName} {ws ws' : List Cond} {rm : Room} {Pc : Array Value → State → Prop} {Qc : Array Value → State → Outcome → State → Prop} {XC : String → State → State → Prop} {mc ms : Nat} {free : Addr → Prop} {cc : ByteArray} {maxL : Nat} {ret : Option FieldType}
    (hy : plainName y.cls = true) (hw : ws = Cond.code y cc maxL ret :: ws')
    (body : ∀ p e s m args below meth c s₁, BodyLoose p l y (headSpec ws rm) cc maxL ret e s m args below meth c s₁ → c.maxLocals = maxL → (∀ x ∈ c.exceptionTable.toList, False) → Pc args s →
      W p l e (headSpec ws rm).room s m args below meth c s.heap [] 0 0 (vx_MQ below Qc XC args s mc ms free) (entryFrame m args maxL)) : vx_Met l y ws rm Pc Qc XC mc ms free := by
  refine MetFree.of_bodyS (code := cc) (maxLocals := maxL) (ret := ret) hy ?_ ?_
  · intro args s m h hn
    obtain ⟨meth, c, h1, h2, h3, h4, h5, h6, -, -⟩ := Cond.code_spec hn (atoms_spec (ws := ws) h _ (by rw [hw]; exact List.mem_cons_self))
    exact ⟨meth, c, h1, h2, h3, h4, h5, h6⟩
  · intro p e s m args below meth c s₁ B hml hP _
    have hh0 : s₁.heap = s.heap := by rw [B.state]; rfl
    have ht : ∀ x ∈ c.exceptionTable.toList, False := by
      obtain ⟨meth9, c9, h1, h2, -, -, -, -, h7, -⟩ := Cond.code_spec B.named (atoms_spec (ws := ws) B.pre _ (by rw [hw]; exact List.mem_cons_self))
      cases Option.some.inj (h1.symm.trans B.method)
      cases Option.some.inj (h2.symm.trans (Stand.of_body B).code)
      intro x hx
      rw [Array.isEmpty_iff.mp h7] at hx
      cases hx
    obtain ⟨t, a1, o, b1, b2, b3⟩ := body p e s m args below meth c s₁ B hml ht hP s₁ hh0 (Stand.of_body B)
    exact ⟨t, o, a1, b1, b2, b3⟩
/-- the table of a body with handlers -/
theorem vx_table {p : Program} {x y : MethodName} {S : Spec} {cc bytes : ByteArray} {maxL maxL' : Nat} {ret ret' : Option FieldType} {e : Env} {s s₁ : State} {m : MethodId} {args : Array Value} {below : List Frame} {meth : Method} {c : Code} {hh : List (Nat × Nat × Nat × Nat)}
    (B : BodyLoose p l y S cc maxL ret e s m args below meth c s₁) (h : (Cond.codeWith y bytes maxL' ret' hh).before args s = true) : c.exceptionTable.toList = tableOf hh := by
  obtain ⟨m9, meth9, c9, hn9, h1, h2, -, -, h6, -⟩ := Cond.codeWith_spec h
  cases Option.some.inj (hn9.symm.trans B.named)
  cases Option.some.inj (h1.symm.trans B.method)
  cases Option.some.inj (h2.symm.trans (Stand.of_body B).code)
  rw [← h6, table_eq]
end Bodies
end VXA
/-! ===== END ===== -/
/-! ===== BEGIN a static call of a method with an exception table ===== -/
section VXS
variable {p : Program} {l : Launch} {e : Env} {R : Room} {s : State} {m : MethodId} {args : Array Value} {below : List Frame} {meth : Method} {c : Code} {T : State} {H : Heap} {locs : List Loc} {cells slots : Nat}
abbrev vx_CSW (R : Room) (s : State) (args : Array Value) (own : String) (index : Nat) (y : MethodName) (bytes : ByteArray) (maxL : Nat) (ret : Option FieldType) (hh : List (Nat × Nat × Nat × Nat)) (ws : List Cond) (rm : Room) (mc ms n : Nat) : Prop :=
  (rm.cells = mc ∧ rm.slots = ms ∧ rm.frames + 1 ≤ R.frames ∧ 8 + (maxL + 11) + rm.locals ≤ R.locals ∧ (∀ w ∈ ws, ∀ (a' : Array Value) (U : State), s.WarmedH U.vm → w.before a' U = true) ∧ Cond.codeWith y bytes maxL ret hh ∈ ws) ∧
  (Cond.codeWith y bytes maxL ret hh).before args s = true ∧ (Cond.initialized y.cls).before args s = true ∧ (y.cls ≠ "java/lang/invoke/MethodHandle" ∧ y.cls ≠ "java/lang/invoke/VarHandle") ∧
  (∀ sig, parseMethodDescriptor y.desc = some sig → n = sig.parameters.length) ∧ (Cond.methodLink own index y).before args s = true ∧ (Cond.static y).before args s = true
theorem vx_cwSW {own : String} {index maxL mc ms : Nat} {y : MethodName} {bytes : ByteArray} {ret : Option FieldType} {hh : List (Nat × Nat × Nat × Nat)} {Ts ws ws' : List Cond} {rm : Room} (n : Nat) (ht : ∀ w ∈ Ts, w.before args s = true) (hT : GoodIn Ts (va_wsS own index y ws)) (hw : ws = Cond.codeWith y bytes maxL ret hh :: ws') (hrc : rm.cells = mc) (hrs : rm.slots = ms)
    (hd : y.cls ≠ "java/lang/invoke/MethodHandle" ∧ y.cls ≠ "java/lang/invoke/VarHandle" ∧ (parseMethodDescriptor y.desc).map (fun d => d.parameters.length) = some n) (hR : rm.frames + 1 ≤ R.frames ∧ 8 + (maxL + 11) + rm.locals ≤ R.locals) :
    vx_CSW R s args own index y bytes maxL ret hh ws rm mc ms n := by
  have ok : ∀ w ∈ va_wsS own index y ws, w.before args s = true := fun w h => ht w (hT w h).1
  have hG : GoodIn Ts ws := fun w h => hT w (by unfold va_wsS; exact List.mem_append_right _ h)
  have hc : Cond.codeWith y bytes maxL ret hh ∈ ws := by rw [hw]; exact List.mem_cons_self
  refine ⟨⟨hrc, hrs, hR.1, hR.2, pay_in ht hG, hc⟩, ht _ (hG _ hc).1, ok _ (by simp [va_wsS]), ⟨hd.1, hd.2.1⟩, fun sig h => ?_, ok _ (by simp [va_wsS]), ok _ (by simp [va_wsS])⟩
  have h2 := hd.2.2
  rw [h] at h2
  exact (Option.some.inj h2).symm
theorem vx_callSW (X : Stand p l e R s m args below meth c T locs cells slots) (hexec : p.tables.exec = Jvm.exec) {own : String} {index : Nat} {y : MethodName} {bytes : ByteArray} {maxL : Nat} {ret : Option FieldType} {hh : List (Nat × Nat × Nat × Nat)}
    (hown : s.vm.findClass own = some m.cls) (hlink : (Cond.methodLink own index y).before args s = true) (hstat : (Cond.static y).before args s = true) (hinit : (Cond.initialized y.cls).before args s = true)
    (hcode : (Cond.codeWith y bytes maxL ret hh).before args s = true) (hy : y.cls ≠ "java/lang/invoke/MethodHandle" ∧ y.cls ≠ "java/lang/invoke/VarHandle")
    {W9 : Nat} {Pre : Pt → Array Value → Prop} {Post : Pt → Array Value → Option Value → Pt → Prop} (hK : Back l R p e below s args y 3 W9 Pre Post)
    {g : JFrame} (hg : g.method = m) (hsize : g.locals.size = c.maxLocals) {argsL rest : List Value} (hlen : ∀ sig, parseMethodDescriptor y.desc = some sig → argsL.length = sig.parameters.length)
    (hstack : g.stack = argsL.reverse ++ rest) (hW : 2 * g.monitorRoom + (rest.map fun v => v.category).sum ≤ W9) (hdg : decode c.code g.pc = .ok (.invokestatic index, 3))
    (hpre : ∀ vm₁, s.WarmedH vm₁ → Pre ⟨T.setVm vm₁, locs, cells, slots⟩ argsL.toArray) :
    ∃ (v : Option Value) (vm₁ : Vm) (B : Pt), s.WarmedH vm₁ ∧ Stand p l e R s m args below meth c B.U B.locs B.cells B.slots ∧ Post ⟨T.setVm vm₁, locs, cells, slots⟩ argsL.toArray v B ∧
      ∀ target, Steps p.tables e below (B.U.setTop { g with pc := g.pc + 3, stack := v.toList ++ rest }) target → Steps p.tables e below (T.setTop g) target := by
  obtain ⟨mk, methM, cM, hnamed, hmethM, -, -, -, -, -, -, hsigM⟩ := Cond.codeWith_spec hcode
  have hstatic : methM.isStatic = true := Cond.static_spec hnamed hmethM hstat
  obtain ⟨kP, hkP, -⟩ := className_of_methodNamed hnamed
  have hinitP : kP.init = .initialized := Cond.initialized_spec (findClass_of_methodNamed hnamed) hkP hinit
  obtain ⟨vm₁, X₁, hstep₁⟩ := X.invokestatic hexec hown hlink hnamed hmethM hstatic hkP hinitP hy (g := g) hg (argsL := argsL) (rest := rest) (hlen _ hsigM) hstack hdg
  obtain ⟨v, B, X', hpost, hsteps⟩ := hK m meth c ⟨T.setVm vm₁, locs, cells, slots⟩ { g with stack := rest } (.invokestatic index) mk argsL.toArray X₁ hg hsize hdg hW (X₁.named hnamed) (hpre vm₁ X₁.warmed)
  exact ⟨v, vm₁, B, X₁.warmed, X', hpost, fun target h => hstep₁ _ fun acts => by rw [doInvoke_state]; exact hsteps.trans h⟩
theorem vx_runSW {y : MethodName} {bytes cc : ByteArray} {maxL nL mc ms n index : Nat} {ret : Option FieldType} {hh : List (Nat × Nat × Nat × Nat)} {ws : List Cond} {rm : Room} {Pc : Array Value → State → Prop} {Qc : Array Value → State → Outcome → State → Prop} {free : Addr → Prop} {Ts : List Cond} {own : String} {As rest : List Value} {g : JFrame}
    (S : CallFix p m c cc nL s args Ts own) (hM : Met l y ws rm Pc Qc mc ms free) (cw : vx_CSW R s args own index y bytes maxL ret hh ws rm mc ms n) (hp : PreS s H Pc As)
    (hg : g.method = m) (hn : As.length = n) (hsize : g.locals.size = nL) (hstack : g.stack = As.reverse ++ rest) (hW : 2 * g.monitorRoom + (rest.map fun v => v.category).sum ≤ 8) (hdg : decode cc g.pc = .ok (.invokestatic index, 3)) (hf : cells + mc ≤ R.cells ∧ slots + ms ≤ R.slots) :
    va_Run p l e R s m args below meth c H locs cells slots mc ms g rest (Qc As.toArray) (free) := by
  obtain ⟨⟨hrc, hrs, hfr, hlo, hws, hcw⟩, hcode, hini, hy, hlen, hl, hstt⟩ := cw
  have hK : Back l R p e below s args y 3 8 (PreOf R mc ms Pc) (PostOf Qc mc ms free) := va_backW (hh := hh) (bytes := bytes) (maxL := maxL) (ret := ret) hM hp.1 hrc hrs hfr hlo hws hcw (fun a' U hW => word_at hW (Or.inl (by first | rfl | simp [Cond.onTables, Cond.keeps, Cond.steady])) hini)
  obtain ⟨hx, hb, hml, ho, -⟩ := S
  intro T hT X
  obtain ⟨v, vm₁, ⟨U', l2, c2, s2⟩, hW₁, X', ⟨g', mk, t, L, e1, e2, hq, h1, hL, h2, h3⟩, st⟩ := vx_callSW X hx (hh := hh) (bytes := bytes) (maxL := maxL) (ret := ret) ho hl hstt hini hcode hy hK hg (hsize.trans hml.symm) (argsL := As) (rest := rest) (fun sig h => hn.trans (hlen sig h)) hstack hW (by rw [hb]; exact hdg)
    (fun vm₁ hW₁ => ⟨hf.1, hf.2, hp.2 (T.setVm vm₁) hT hW₁⟩)
  dsimp only [Pt.U, Pt.locs, Pt.cells, Pt.slots] at X' e1 e2 h1 h2 h3 st
  subst h1; subst h2; subst h3
  exact ⟨v, (T.setVm vm₁).calling g' mk As.toArray, t, U', L, hT, X', hL, e1, e2, hq, st⟩
/-- not caught here, past rows that name other classes: it goes on to the caller -/
theorem vx_outP {p : Program} {l : Launch} {e : Env} {R : Room} {s : State} {m : MethodId} {args : Array Value} {below : List Frame} {meth : Method} {c : Code} {H : Heap} {locs : List Loc} {cells slots : Nat} {free : Addr → Prop} {ls : Array Slot} {rest : List Value} {Qc : Array Value → State → Outcome → State → Prop} {XC : String → State → State → Prop}
    {pc : Nat} {own E : String} {ce : Cell} {q : Addr} {mc ms : Nat} (hown : s.vm.findClass own = some m.cls) (hlocks : meth.locks = false)
    (hpass : ∀ z ∈ c.exceptionTable.toList, covers z pc = false ∨ (z.catchType ≠ 0 ∧ ∃ nm : String, (Cond.classLink own z.catchType nm).before args s = true ∧ va_Nc E nm s)) (hcell : H[q]? = some ce) (hv : ce.vm = .none) (hcl : s.vm.findClass E = some ce.cls)
    (hx : ∀ t : State, t.heap = H → s.vm.Alike t.vm → XC E s t) (hf : ∀ z ∈ locs, free z.base) (hc : cells ≤ mc) (hs : slots ≤ ms) :
    vx_W p l e R s m args below meth c H locs cells slots (vx_MQ below Qc XC args s mc ms free) (F0 m pc ls rest) q := by
  intro T hT X
  have hpl : e.platform.magicAccessors = ({} : Platform).magicAccessors := by rw [X.admits.platform]
  obtain ⟨vm', hW', X', st⟩ := X.outThrough hlocks q (g := F0 m pc ls rest) rfl rfl rfl (cell := ce) (by rw [hT]; exact hcell) (by rw [hv]; rfl)
    (by obtain ⟨k9, h9, -⟩ := Vm.findClass_spec hcl; exact ⟨k9, h9⟩) (fun z hz => by
      rcases hpass z hz with h | ⟨hz0, nm, hl1, hn1⟩
      · exact Or.inl h
      · obtain ⟨c6, hc6, hcl6⟩ := Cond.classLink_spec hown hl1 e.platform hpl
        obtain ⟨a8, b8, h1, h2, h3⟩ := hn1
        cases Option.some.inj (h1.symm.trans hcl)
        cases Option.some.inj (h2.symm.trans hc6)
        exact Or.inr ⟨hz0, _, hcl6, h3⟩)
  obtain ⟨g₀, hfr⟩ := X'.frames_eq
  have hcell9 : ((T.setVm vm').setFrames (.throwing q :: below)).heap[q]? = some ce := by
    show T.heap[q]? = some ce
    rw [hT]; exact hcell
  have hend : Ended ((T.setVm vm').setFrames (.throwing q :: below)) below (.threw q) := State.frames_setFrames _ (State.cur_lt_of_frames hfr)
  refine ⟨(T.setVm vm').setFrames (.throwing q :: below), ?_, .threw q, X'.here.running, hend, Or.inr ⟨q, rfl, E, ce, locs, hx _ hT (X'.ends _).1.alike, hcell9, hv, hcl, (X'.ends _).1, (X'.ends _).2.mono hc hs, hf⟩⟩
  rw [X.pushThrowing_eq]
  exact st
/-- a thing of a world lies in the heap -/
theorem vx_lt {D : va_G} {cl : List vw_C} {ws : va_W} {H1 : Heap} (h : va_P D cl ws H1) {k : Nat} {q : Nat × va_E} (hk : ws[k]? = some q) : q.1 < H1.size := (h k q hk).lt
end VXS
/-! ===== END ===== -/
/-! ===== BEGIN methods with a table of their own: called by a name, returning or throwing ===== -/
section VXH
/-! vx_backW, vx_callVX, vx_callSX, vx_callVW, vx_runVW, vx_runVX, vx_runSX, vx_ofWH follow the same proofs as their sisters above (Free/Laws.lean, Shelf42/LK1.lean); vx_outP calls Shelf42/NT130.lean (outThrough). -/
section
variable {l : Launch} {R : Room} {p : Program} {e : Env} {below : List Frame} {s : State} {sargs : Array Value} {y : MethodName} {len W9 : Nat}
theorem vx_backW {ws : List Cond} {rm : Room} {Pc : Array Value → State → Prop} {Qc : Array Value → State → Outcome → State → Prop} {XC : String → State → State → Prop} {mc ms : Nat} {free : Addr → Prop} {bytes : ByteArray} {maxL : Nat} {ret : Option FieldType} {hh : List (Nat × Nat × Nat × Nat)}
    (hM : vx_Met l y ws rm Pc Qc XC mc ms free) (hblind : FrameBlind Pc) (hrc : rm.cells = mc) (hrs : rm.slots = ms)
    (hframes : rm.frames + 1 ≤ R.frames) (hlocals : W9 + (maxL + 11) + rm.locals ≤ R.locals)
    (hws : ∀ w ∈ ws, ∀ a' U, s.WarmedH U.vm → w.before a' U = true) (hcode : Cond.codeWith y bytes maxL ret hh ∈ ws) (hinit : ∀ a' U, s.WarmedH U.vm → (Cond.initialized y.cls).before a' U = true) :
    vx_Back l R p e below s sargs y len W9 (PreOf R mc ms Pc) (PostOf Qc mc ms free) (vx_Post XC mc ms free) := by
  intro m meth c A g ig mk a X hg hsize hdg hW hn hp
  have h1 : (headSpec ws rm).pre.before a A.U = true := atoms_intro fun w hw => hws w hw _ _ X.warmed
  have h2 : (Cond.codeWith y bytes maxL ret hh).before a A.U = true := hws _ hcode _ _ X.warmed
  have h3 : (Cond.initialized y.cls).before a A.U = true := hinit _ _ X.warmed
  have h4 : A.cells + (headSpec ws rm).room.cells ≤ R.cells := by rw [show (headSpec ws rm).room.cells = mc from hrc]; exact hp.1
  have h5 : A.slots + (headSpec ws rm).room.slots ≤ R.slots := by rw [show (headSpec ws rm).room.slots = ms from hrs]; exact hp.2.1
  have hPc : Pc a (A.U.calling g mk a) := hblind _ _ _ _ hp.2.2
  obtain ⟨U, Ls, c0, s0⟩ := A
  dsimp only [Pt.U, Pt.locs, Pt.cells, Pt.slots] at h1 h2 h3 h4 h5 X hn hPc ⊢
  obtain ⟨m9, methY, cY, hn9, hmY, hcY, -, hlY, -⟩ := Cond.codeWith_spec h2
  cases Option.some.inj (hn9.symm.trans hn)
  obtain ⟨kY, hkY, -⟩ := className_of_methodNamed hn
  have hinitY : kY.init = .initialized := Cond.initialized_spec (findClass_of_methodNamed hn) hkY h3
  have h : At U g.method c below := by rw [hg]; exact X.here
  have hlocals9 : W9 + (maxL + 11) + (headSpec ws rm).room.locals ≤ R.locals := hlocals
  have happ : (headSpec ws rm).appliesLoose y e.platform (U.calling g mk a) = true :=
    Spec.appliesLoose_calling (g := g) h hdg hn hkY hinitY
      (X.room_calling (g := g) (R' := (headSpec ws rm).room) hsize hmY hcY hframes (by rw [hlY]; omega) h4 h5) h1
  obtain ⟨mid, hmid⟩ := h.above
  have hfr : (U.setTop g).frames = (.java g :: mid) ++ below := by rw [State.frames_setTop' g h.top, hmid]; rfl
  obtain ⟨o, s₂, hsteps, -, hend, hq⟩ := Steps.callFree hM p X.admits X.cas X.clock (acts := []) hfr happ hPc trivial
  have hq' : vx_Q Qc XC mc ms free a (U.calling g mk a) o s₂ := hq
  rw [State.frames_setTop' g h.top] at hend
  obtain ⟨g₀, hg0⟩ := Option.isSome_iff_exists.mp h.top
  obtain ⟨r, hr⟩ := State.topJava?_eq_some.mp hg0
  have hr' : (({ U with heap := s₂.heap, slotsUsed := s₂.slotsUsed } : State).setVm s₂.vm).frames = .java g₀ :: r := hr
  rcases hq' with ⟨hqc, L, hfe, hL⟩ | ⟨q, rfl, E, ce, L, hx, hce, hcv, hcl, hW₂, hsm, hL⟩
  · obtain ⟨⟨v, rfl⟩, hW₂, e2, q2, q3, q4, q5, q6⟩ := id hfe
    have e3 : s₂ = ({ (U.calling g mk a).setFrames s₂.frames with heap := s₂.heap, slotsUsed := s₂.slotsUsed } : State).setVm s₂.vm := by
      have : s₂ = ({ s₂ with vm := (U.calling g mk a).vm } : State).setVm s₂.vm := rfl
      rw [e2] at this
      exact this
    obtain ⟨c₂, i₂, len₂, hc₂, hd₂, hf₂⟩ := hend
    have hW' : U.WarmedH s₂.vm := hW₂
    have hcc : c₂ = c := by
      have h1 : s₂.code? g.method = U.code? g.method := by
        rw [State.code?_eq, State.code?_eq, hW'.alike.method?]
      exact Option.some.inj (hc₂.symm.trans (h1.trans h.code))
    subst hcc
    have hlen : len₂ = len := by rw [hdg] at hd₂; cases hd₂; rfl
    subst hlen
    have hs₂ : s₂ = (({ U with heap := s₂.heap, slotsUsed := s₂.slotsUsed } : State).setVm s₂.vm).setTop { g with pc := g.pc + len₂, stack := v.toList ++ g.stack } := by
      refine e3.trans ?_
      rw [hf₂, State.calling_eq h.top, State.setFrames_setFrames, State.setTop_of_frames _ hr', hr]
      rfl
    have hsame : U.sameButNew ({ U with heap := s₂.heap, slotsUsed := s₂.slotsUsed } : State) L mc ms := by
      refine ⟨?_, q2, q3, q4, q5, q6⟩
      obtain ⟨t, ht, -⟩ := State.frames_cons hr
      show ({ U with heap := s₂.heap, slotsUsed := s₂.slotsUsed } : State) = { U.setFrames U.frames with heap := s₂.heap, slotsUsed := s₂.slotsUsed }
      rw [State.setFrames_self ht]
    subst hg
    refine Or.inl ⟨v, ⟨(({ U with heap := s₂.heap, slotsUsed := s₂.slotsUsed } : State).setVm s₂.vm), Ls ++ L, c0 + mc, s0 + ms⟩,
      ⟨X.admits, X.cas, X.clock, X.frames, X.room, X.hears, X.method, X.code, (X.here.setHeapUsed s₂.heap s₂.slotsUsed).setVm hW'.alike, X.tail, State.WarmedH.trans X.warmed hW', X.limits, X.bytes, X.same.trans (hsame.setVm s.vm)⟩,
      ⟨g, mk, s₂, L, rfl, rfl, hqc, rfl, hL, rfl, rfl⟩, ?_⟩
    show Steps p.tables e below _ ((({ U with heap := s₂.heap, slotsUsed := s₂.slotsUsed } : State).setVm s₂.vm).setTop { g with pc := g.pc + len₂, stack := v.toList ++ g.stack })
    rw [← hs₂]
    exact hsteps
  · obtain ⟨e2, q2, q3, q4, q5, q6⟩ := id hsm
    have e3 : s₂ = ({ (U.calling g mk a).setFrames s₂.frames with heap := s₂.heap, slotsUsed := s₂.slotsUsed } : State).setVm s₂.vm := by
      have : s₂ = ({ s₂ with vm := (U.calling g mk a).vm } : State).setVm s₂.vm := rfl
      rw [e2] at this
      exact this
    have hf₂ : s₂.frames = .throwing q :: .java g :: U.frames.tail := hend
    have hW' : U.WarmedH s₂.vm := hW₂
    have hs₂ : s₂ = ((({ U with heap := s₂.heap, slotsUsed := s₂.slotsUsed } : State).setVm s₂.vm).setTop g).pushFrame (.throwing q) := by
      refine e3.trans ?_
      rw [hf₂, State.calling_eq h.top, State.setFrames_setFrames, State.pushFrame, State.frames_setTop _ hr', State.setTop_of_frames _ hr', State.setFrames_setFrames, hr]
      rfl
    have hsame : U.sameButNew ({ U with heap := s₂.heap, slotsUsed := s₂.slotsUsed } : State) L mc ms := by
      refine ⟨?_, q2, q3, q4, q5, q6⟩
      obtain ⟨t, ht, -⟩ := State.frames_cons hr
      show ({ U with heap := s₂.heap, slotsUsed := s₂.slotsUsed } : State) = { U.setFrames U.frames with heap := s₂.heap, slotsUsed := s₂.slotsUsed }
      rw [State.setFrames_self ht]
    subst hg
    refine Or.inr ⟨q, ⟨(({ U with heap := s₂.heap, slotsUsed := s₂.slotsUsed } : State).setVm s₂.vm), Ls ++ L, c0 + mc, s0 + ms⟩,
      ⟨X.admits, X.cas, X.clock, X.frames, X.room, X.hears, X.method, X.code, (X.here.setHeapUsed s₂.heap s₂.slotsUsed).setVm hW'.alike, X.tail, State.WarmedH.trans X.warmed hW', X.limits, X.bytes, X.same.trans (hsame.setVm s.vm)⟩,
      ⟨g, mk, s₂, L, E, ce, rfl, rfl, hx, hce, hcv, hcl, rfl, hL, rfl, rfl⟩, ?_⟩
    show Steps p.tables e below _ (((({ U with heap := s₂.heap, slotsUsed := s₂.slotsUsed } : State).setVm s₂.vm).setTop g).pushFrame (.throwing q))
    rw [← hs₂]
    exact hsteps
end
variable {p : Program} {l : Launch} {e : Env} {R : Room} {s : State} {m : MethodId} {args : Array Value} {below : List Frame} {meth : Method} {c : Code} {T : State} {H : Heap} {locs : List Loc} {cells slots : Nat}
theorem vx_callVX (X : Stand p l e R s m args below meth c T locs cells slots) (hexec : p.tables.exec = Jvm.exec) {own C : String} {index : Nat} {y : MethodName} {bytes : ByteArray} {maxL : Nat} {ret : Option FieldType} {hh : List (Nat × Nat × Nat × Nat)}
    (hown : s.vm.findClass own = some m.cls) (hlink : (Cond.methodLink own index y).before args s = true) (hinst : (Cond.instanceMethod y).before args s = true) (hsel : (Cond.selects C y y).before args s = true)
    (hcode : (Cond.codeWith y bytes maxL ret hh).before args s = true) (hy : y.cls ≠ "java/lang/invoke/MethodHandle" ∧ y.cls ≠ "java/lang/invoke/VarHandle")
    {W9 : Nat} {Pre : Pt → Array Value → Prop} {Post : Pt → Array Value → Option Value → Pt → Prop} {PostX : Pt → Array Value → Addr → Pt → Prop} (hK : vx_Back l R p e below s args y 3 W9 Pre Post PostX)
    {b : Addr} {cellB : Cell} (hcell : T.heap[b]? = some cellB) (hobj : cellB.vm.isStatics = false) (hcls : s.vm.findClass C = some cellB.cls)
    {g : JFrame} (hg : g.method = m) (hsize : g.locals.size = c.maxLocals) {argsL rest : List Value} (hlen : ∀ sig, parseMethodDescriptor y.desc = some sig → argsL.length = sig.parameters.length)
    (hstack : g.stack = argsL.reverse ++ .ref b :: rest) (hW : 2 * g.monitorRoom + (rest.map fun v => v.category).sum ≤ W9) (hdg : decode c.code g.pc = .ok (.invokevirtual index, 3))
    (hpre : ∀ vm₁, s.WarmedH vm₁ → Pre ⟨T.setVm vm₁, locs, cells, slots⟩ (Value.ref b :: argsL).toArray) :
    (∃ (v : Option Value) (vm₁ : Vm) (B : Pt), s.WarmedH vm₁ ∧ Stand p l e R s m args below meth c B.U B.locs B.cells B.slots ∧ Post ⟨T.setVm vm₁, locs, cells, slots⟩ (Value.ref b :: argsL).toArray v B ∧
      ∀ target, Steps p.tables e below (B.U.setTop { g with pc := g.pc + 3, stack := v.toList ++ rest }) target → Steps p.tables e below (T.setTop g) target) ∨
    (∃ (q : Addr) (vm₁ : Vm) (B : Pt), s.WarmedH vm₁ ∧ Stand p l e R s m args below meth c B.U B.locs B.cells B.slots ∧ PostX ⟨T.setVm vm₁, locs, cells, slots⟩ (Value.ref b :: argsL).toArray q B ∧
      Steps p.tables e below (T.setTop g) ((B.U.setTop { g with stack := rest }).pushFrame (.throwing q))) := by
  obtain ⟨mk, methM, hnamed, hmethM, hstM, habM⟩ := Cond.instanceMethod_spec hinst
  obtain ⟨m8, methM', cM, hn8, hmethM', -, -, -, -, -, -, hsigM⟩ := Cond.codeWith_spec hcode
  cases Option.some.inj (hn8.symm.trans hnamed)
  cases hmethM.symm.trans hmethM'
  obtain ⟨c2, r2, m2, q1, q2, q3, q4, kP, hkP, hkPi⟩ := Cond.selects_spec hsel
  cases hcls.symm.trans q1
  cases (State.methodFound?_of_named hnamed hy).symm.trans q2
  cases hnamed.symm.trans q3
  have hselP : selectMethod e.platform s.vm cellB.cls mk = .method mk := by rw [Launch.admits_selectMethod X.admits]; exact q4
  obtain ⟨vm₁, X₁, hstep₁⟩ := X.invokevirtual hexec hown hlink hnamed hmethM hstM hkP hkPi hy (a := b) (cell := cellB) hcell
    (fun z h => by rw [h] at hobj; cases hobj) hselP hmethM habM hkP hkPi (g := g) hg (argsL := argsL) (rest := rest) (hlen _ hsigM) hstack hdg
  rcases hK m meth c ⟨T.setVm vm₁, locs, cells, slots⟩ { g with stack := rest } (.invokevirtual index) mk (Value.ref b :: argsL).toArray X₁ hg hsize hdg hW (X₁.named hnamed) (hpre vm₁ X₁.warmed) with ⟨v, B, X', hpost, hsteps⟩ | ⟨q, B, X', hpost, hsteps⟩
  · exact Or.inl ⟨v, vm₁, B, X₁.warmed, X', hpost, fun target h => hstep₁ _ fun acts => by rw [doInvoke_state]; exact hsteps.trans h⟩
  · exact Or.inr ⟨q, vm₁, B, X₁.warmed, X', hpost, hstep₁ _ fun acts => by rw [doInvoke_state]; exact hsteps⟩
theorem vx_callSX (X : Stand p l e R s m args below meth c T locs cells slots) (hexec : p.tables.exec = Jvm.exec) {own : String} {index : Nat} {y : MethodName} {bytes : ByteArray} {maxL : Nat} {ret : Option FieldType} {hh : List (Nat × Nat × Nat × Nat)}
    (hown : s.vm.findClass own = some m.cls) (hlink : (Cond.methodLink own index y).before args s = true) (hstat : (Cond.static y).before args s = true) (hinit : (Cond.initialized y.cls).before args s = true)
    (hcode : (Cond.codeWith y bytes maxL ret hh).before args s = true) (hy : y.cls ≠ "java/lang/invoke/MethodHandle" ∧ y.cls ≠ "java/lang/invoke/VarHandle")
    {W9 : Nat} {Pre : Pt → Array Value → Prop} {Post : Pt → Array Value → Option Value → Pt → Prop} {PostX : Pt → Array Value → Addr → Pt → Prop} (hK : vx_Back l R p e below s args y 3 W9 Pre Post PostX)
    {g : JFrame} (hg : g.method = m) (hsize : g.locals.size = c.maxLocals) {argsL rest : List Value} (hlen : ∀ sig, parseMethodDescriptor y.desc = some sig → argsL.length = sig.parameters.length)
    (hstack : g.stack = argsL.reverse ++ rest) (hW : 2 * g.monitorRoom + (rest.map fun v => v.category).sum ≤ W9) (hdg : decode c.code g.pc = .ok (.invokestatic index, 3))
    (hpre : ∀ vm₁, s.WarmedH vm₁ → Pre ⟨T.setVm vm₁, locs, cells, slots⟩ argsL.toArray) :
    (∃ (v : Option Value) (vm₁ : Vm) (B : Pt), s.WarmedH vm₁ ∧ Stand p l e R s m args below meth c B.U B.locs B.cells B.slots ∧ Post ⟨T.setVm vm₁, locs, cells, slots⟩ argsL.toArray v B ∧
      ∀ target, Steps p.tables e below (B.U.setTop { g with pc := g.pc + 3, stack := v.toList ++ rest }) target → Steps p.tables e below (T.setTop g) target) ∨
    (∃ (q : Addr) (vm₁ : Vm) (B : Pt), s.WarmedH vm₁ ∧ Stand p l e R s m args below meth c B.U B.locs B.cells B.slots ∧ PostX ⟨T.setVm vm₁, locs, cells, slots⟩ argsL.toArray q B ∧
      Steps p.tables e below (T.setTop g) ((B.U.setTop { g with stack := rest }).pushFrame (.throwing q))) := by
  obtain ⟨mk, methM, cM, hnamed, hmethM, -, -, -, -, -, -, hsigM⟩ := Cond.codeWith_spec hcode
  have hstatic : methM.isStatic = true := Cond.static_spec hnamed hmethM hstat
  obtain ⟨kP, hkP, -⟩ := className_of_methodNamed hnamed
  have hinitP : kP.init = .initialized := Cond.initialized_spec (findClass_of_methodNamed hnamed) hkP hinit
  obtain ⟨vm₁, X₁, hstep₁⟩ := X.invokestatic hexec hown hlink hnamed hmethM hstatic hkP hinitP hy (g := g) hg (argsL := argsL) (rest := rest) (hlen _ hsigM) hstack hdg
  rcases hK m meth c ⟨T.setVm vm₁, locs, cells, slots⟩ { g with stack := rest } (.invokestatic index) mk argsL.toArray X₁ hg hsize hdg hW (X₁.named hnamed) (hpre vm₁ X₁.warmed) with ⟨v, B, X', hpost, hsteps⟩ | ⟨q, B, X', hpost, hsteps⟩
  · exact Or.inl ⟨v, vm₁, B, X₁.warmed, X', hpost, fun target h => hstep₁ _ fun acts => by rw [doInvoke_state]; exact hsteps.trans h⟩
  · exact Or.inr ⟨q, vm₁, B, X₁.warmed, X', hpost, hstep₁ _ fun acts => by rw [doInvoke_state]; exact hsteps⟩
theorem vx_callVW (X : Stand p l e R s m args below meth c T locs cells slots) (hexec : p.tables.exec = Jvm.exec) {own C : String} {index : Nat} {y : MethodName} {bytes : ByteArray} {maxL : Nat} {ret : Option FieldType} {hh : List (Nat × Nat × Nat × Nat)}
    (hown : s.vm.findClass own = some m.cls) (hlink : (Cond.methodLink own index y).before args s = true) (hinst : (Cond.instanceMethod y).before args s = true) (hsel : (Cond.selects C y y).before args s = true)
    (hcode : (Cond.codeWith y bytes maxL ret hh).before args s = true) (hy : y.cls ≠ "java/lang/invoke/MethodHandle" ∧ y.cls ≠ "java/lang/invoke/VarHandle")
    {W9 : Nat} {Pre : Pt → Array Value → Prop} {Post : Pt → Array Value → Option Value → Pt → Prop} (hK : Back l R p e below s args y 3 W9 Pre Post)
    {b : Addr} {cellB : Cell} (hcell : T.heap[b]? = some cellB) (hobj : cellB.vm.isStatics = false) (hcls : s.vm.findClass C = some cellB.cls)
    {g : JFrame} (hg : g.method = m) (hsize : g.locals.size = c.maxLocals) {argsL rest : List Value} (hlen : ∀ sig, parseMethodDescriptor y.desc = some sig → argsL.length = sig.parameters.length)
    (hstack : g.stack = argsL.reverse ++ .ref b :: rest) (hW : 2 * g.monitorRoom + (rest.map fun v => v.category).sum ≤ W9) (hdg : decode c.code g.pc = .ok (.invokevirtual index, 3))
    (hpre : ∀ vm₁, s.WarmedH vm₁ → Pre ⟨T.setVm vm₁, locs, cells, slots⟩ (Value.ref b :: argsL).toArray) :
    ∃ (v : Option Value) (vm₁ : Vm) (B : Pt), s.WarmedH vm₁ ∧ Stand p l e R s m args below meth c B.U B.locs B.cells B.slots ∧ Post ⟨T.setVm vm₁, locs, cells, slots⟩ (Value.ref b :: argsL).toArray v B ∧
      ∀ target, Steps p.tables e below (B.U.setTop { g with pc := g.pc + 3, stack := v.toList ++ rest }) target → Steps p.tables e below (T.setTop g) target := by
  obtain ⟨mk, methM, hnamed, hmethM, hstM, habM⟩ := Cond.instanceMethod_spec hinst
  obtain ⟨m8, methM', cM, hn8, hmethM', -, -, -, -, -, -, hsigM⟩ := Cond.codeWith_spec hcode
  cases Option.some.inj (hn8.symm.trans hnamed)
  cases hmethM.symm.trans hmethM'
  obtain ⟨c2, r2, m2, q1, q2, q3, q4, kP, hkP, hkPi⟩ := Cond.selects_spec hsel
  cases hcls.symm.trans q1
  cases (State.methodFound?_of_named hnamed hy).symm.trans q2
  cases hnamed.symm.trans q3
  have hselP : selectMethod e.platform s.vm cellB.cls mk = .method mk := by rw [Launch.admits_selectMethod X.admits]; exact q4
  obtain ⟨vm₁, X₁, hstep₁⟩ := X.invokevirtual hexec hown hlink hnamed hmethM hstM hkP hkPi hy (a := b) (cell := cellB) hcell
    (fun z h => by rw [h] at hobj; cases hobj) hselP hmethM habM hkP hkPi (g := g) hg (argsL := argsL) (rest := rest) (hlen _ hsigM) hstack hdg
  obtain ⟨v, B, X', hpost, hsteps⟩ := hK m meth c ⟨T.setVm vm₁, locs, cells, slots⟩ { g with stack := rest } (.invokevirtual index) mk (Value.ref b :: argsL).toArray X₁ hg hsize hdg hW (X₁.named hnamed) (hpre vm₁ X₁.warmed)
  exact ⟨v, vm₁, B, X₁.warmed, X', hpost, fun target h => hstep₁ _ fun acts => by rw [doInvoke_state]; exact hsteps.trans h⟩
abbrev vx_CVW (R : Room) (s : State) (args : Array Value) (own C : String) (index : Nat) (y : MethodName) (bytes : ByteArray) (maxL : Nat) (ret : Option FieldType) (hh : List (Nat × Nat × Nat × Nat)) (ws : List Cond) (rm : Room) (mc ms n : Nat) : Prop :=
  (rm.cells = mc ∧ rm.slots = ms ∧ rm.frames + 1 ≤ R.frames ∧ 8 + (maxL + 11) + rm.locals ≤ R.locals ∧ (∀ w ∈ ws, ∀ (a' : Array Value) (U : State), s.WarmedH U.vm → w.before a' U = true) ∧ Cond.codeWith y bytes maxL ret hh ∈ ws) ∧
  (Cond.codeWith y bytes maxL ret hh).before args s = true ∧ (Cond.initialized y.cls).before args s = true ∧ (y.cls ≠ "java/lang/invoke/MethodHandle" ∧ y.cls ≠ "java/lang/invoke/VarHandle") ∧
  (∀ sig, parseMethodDescriptor y.desc = some sig → n = sig.parameters.length) ∧ (Cond.methodLink own index y).before args s = true ∧ (Cond.instanceMethod y).before args s = true ∧ (Cond.selects C y y).before args s = true
theorem vx_cwVW {own C : String} {index maxL mc ms : Nat} {y : MethodName} {bytes : ByteArray} {ret : Option FieldType} {hh : List (Nat × Nat × Nat × Nat)} {Ts ws ws' : List Cond} {rm : Room} (n : Nat) (ht : ∀ w ∈ Ts, w.before args s = true) (hT : GoodIn Ts (wsV own index C y ws)) (hw : ws = Cond.codeWith y bytes maxL ret hh :: ws') (hrc : rm.cells = mc) (hrs : rm.slots = ms)
    (hd : y.cls = C ∧ y.cls ≠ "java/lang/invoke/MethodHandle" ∧ y.cls ≠ "java/lang/invoke/VarHandle" ∧ (parseMethodDescriptor y.desc).map (fun d => d.parameters.length) = some n) (hR : rm.frames + 1 ≤ R.frames ∧ 8 + (maxL + 11) + rm.locals ≤ R.locals) :
    vx_CVW R s args own C index y bytes maxL ret hh ws rm mc ms n := by
  obtain ⟨hC, hd⟩ := hd
  subst hC
  have ok : ∀ w ∈ wsV own index y.cls y ws, w.before args s = true := fun w h => ht w (hT w h).1
  have hG : GoodIn Ts ws := fun w h => hT w (by unfold wsV; exact List.mem_append_right _ h)
  have hc : Cond.codeWith y bytes maxL ret hh ∈ ws := by rw [hw]; exact List.mem_cons_self
  refine ⟨⟨hrc, hrs, hR.1, hR.2, pay_in ht hG, hc⟩, ht _ (hG _ hc).1, ok _ (by simp [wsV]), ⟨hd.1, hd.2.1⟩, fun sig h => ?_, ok _ (by simp [wsV]), ok _ (by simp [wsV]), ok _ (by simp [wsV])⟩
  have h2 := hd.2.2
  rw [h] at h2
  exact (Option.some.inj h2).symm
theorem vx_runVW {y : MethodName} {bytes cc : ByteArray} {maxL nL mc ms n index : Nat} {ret : Option FieldType} {hh : List (Nat × Nat × Nat × Nat)} {ws : List Cond} {rm : Room} {Pc : Array Value → State → Prop} {Qc : Array Value → State → Outcome → State → Prop} {free : Addr → Prop} {Ts : List Cond} {own C : String} {b : Addr} {As rest : List Value} {g : JFrame}
    (S : CallFix p m c cc nL s args Ts own) (hM : Met l y ws rm Pc Qc mc ms free) (cw : vx_CVW R s args own C index y bytes maxL ret hh ws rm mc ms n) (hp : PreV s H C b Pc As)
    (hg : g.method = m) (hn : As.length = n) (hsize : g.locals.size = nL) (hstack : g.stack = As.reverse ++ .ref b :: rest) (hW : 2 * g.monitorRoom + (rest.map fun v => v.category).sum ≤ 8) (hdg : decode cc g.pc = .ok (.invokevirtual index, 3)) (hf : cells + mc ≤ R.cells ∧ slots + ms ≤ R.slots) :
    va_Run p l e R s m args below meth c H locs cells slots mc ms g rest (Qc (Value.ref b :: As).toArray) free := by
  obtain ⟨⟨hrc, hrs, hfr, hlo, hws, hcw⟩, hcode, hini, hy, hlen, hl, hin, hse⟩ := cw
  have hK : Back l R p e below s args y 3 8 (PreOf R mc ms Pc) (PostOf Qc mc ms free) := va_backW (hh := hh) (bytes := bytes) (maxL := maxL) (ret := ret) hM hp.1 hrc hrs hfr hlo hws hcw (fun a' U hW => word_at hW (Or.inl (by first | rfl | simp [Cond.onTables, Cond.keeps, Cond.steady])) hini)
  obtain ⟨hx, hb, hml, ho, -⟩ := S
  obtain ⟨-, ⟨cellB, hcB, hoB, hclB⟩, hPc⟩ := hp
  intro T hT X
  obtain ⟨v, vm₁, ⟨U', l2, c2, s2⟩, hW₁, X', ⟨g', mk, t, L, e1, e2, hq, h1, hL, h2, h3⟩, st⟩ := vx_callVW X hx (C := C) (hh := hh) (bytes := bytes) (maxL := maxL) (ret := ret) ho hl hin hse hcode hy hK (by rw [hT]; exact hcB) hoB hclB hg (hsize.trans hml.symm) (argsL := As) (rest := rest) (fun sig h => hn.trans (hlen sig h)) hstack hW (by rw [hb]; exact hdg)
    (fun vm₁ hW₁ => ⟨hf.1, hf.2, hPc (T.setVm vm₁) hT hW₁⟩)
  dsimp only [Pt.U, Pt.locs, Pt.cells, Pt.slots] at X' e1 e2 h1 h2 h3 st
  subst h1; subst h2; subst h3
  exact ⟨v, (T.setVm vm₁).calling g' mk (Value.ref b :: As).toArray, t, U', L, hT, X', hL, e1, e2, hq, st⟩
section
variable {y : MethodName} {bytes cc : ByteArray} {maxL nL mc ms n index : Nat} {ret : Option FieldType} {ws : List Cond} {rm : Room} {Pc : Array Value → State → Prop} {Qc : Array Value → State → Outcome → State → Prop} {XC : String → State → State → Prop} {free : Addr → Prop} {Ts : List Cond} {own C : String} {b : Addr} {As rest : List Value} {g : JFrame}
theorem vx_runVX {hh : List (Nat × Nat × Nat × Nat)} (S : CallFix p m c cc nL s args Ts own) (hM : vx_Met l y ws rm Pc Qc XC mc ms free) (cw : vx_CVW R s args own C index y bytes maxL ret hh ws rm mc ms n) (hp : PreV s H C b Pc As)
    (hg : g.method = m) (hn : As.length = n) (hsize : g.locals.size = nL) (hstack : g.stack = As.reverse ++ .ref b :: rest) (hW : 2 * g.monitorRoom + (rest.map fun v => v.category).sum ≤ 8) (hdg : decode cc g.pc = .ok (.invokevirtual index, 3)) (hf : cells + mc ≤ R.cells ∧ slots + ms ≤ R.slots) :
    vx_Run p l e R s m args below meth c H locs cells slots mc ms g rest (Qc (Value.ref b :: As).toArray) XC free := by
  obtain ⟨⟨hrc, hrs, hfr, hlo, hws, hcw⟩, hcode, hini, hy, hlen, hl, hin, hse⟩ := cw
  have hK : vx_Back l R p e below s args y 3 8 (PreOf R mc ms Pc) (PostOf Qc mc ms free) (vx_Post XC mc ms free) := vx_backW (hh := hh) (bytes := bytes) (maxL := maxL) (ret := ret) hM hp.1 hrc hrs hfr hlo hws hcw (fun a' U hW => word_at hW (Or.inl (by first | rfl | simp [Cond.onTables, Cond.keeps, Cond.steady])) hini)
  obtain ⟨hx, hb, hml, ho, -⟩ := S
  obtain ⟨-, ⟨cellB, hcB, hoB, hclB⟩, hPc⟩ := hp
  intro T hT X
  rcases vx_callVX X hx (C := C) (hh := hh) (bytes := bytes) (maxL := maxL) (ret := ret) ho hl hin hse hcode hy hK (by rw [hT]; exact hcB) hoB hclB hg (hsize.trans hml.symm) (argsL := As) (rest := rest) (fun sig h => hn.trans (hlen sig h)) hstack hW (by rw [hb]; exact hdg)
    (fun vm₁ hW₁ => ⟨hf.1, hf.2, hPc (T.setVm vm₁) hT hW₁⟩) with ⟨v, vm₁, ⟨U', l2, c2, s2⟩, hW₁, X', ⟨g', mk, t, L, e1, e2, hq, h1, hL, h2, h3⟩, st⟩ | ⟨q, vm₁, ⟨U', l2, c2, s2⟩, hW₁, X', ⟨g', mk, t, L, E, ce, e1, e2, hq, hce, hcv, hcl, h1, hL, h2, h3⟩, st⟩
  · dsimp only [Pt.U, Pt.locs, Pt.cells, Pt.slots] at X' e1 e2 h1 h2 h3 st
    subst h1; subst h2; subst h3
    exact Or.inl ⟨v, (T.setVm vm₁).calling g' mk (Value.ref b :: As).toArray, t, U', L, hT, X', hL, e1, e2, hq, st⟩
  · dsimp only [Pt.U, Pt.locs, Pt.cells, Pt.slots] at X' e1 e2 h1 h2 h3 st hcl
    subst h1; subst h2; subst h3
    exact Or.inr ⟨q, (T.setVm vm₁).calling g' mk (Value.ref b :: As).toArray, t, U', L, E, ce, hT, X', hL, e1, e2, hq, hce, hcv, vx_cls hW₁ hcl, st⟩
theorem vx_runSX {hh : List (Nat × Nat × Nat × Nat)} (S : CallFix p m c cc nL s args Ts own) (hM : vx_Met l y ws rm Pc Qc XC mc ms free) (cw : vx_CSW R s args own index y bytes maxL ret hh ws rm mc ms n) (hp : PreS s H Pc As)
    (hg : g.method = m) (hn : As.length = n) (hsize : g.locals.size = nL) (hstack : g.stack = As.reverse ++ rest) (hW : 2 * g.monitorRoom + (rest.map fun v => v.category).sum ≤ 8) (hdg : decode cc g.pc = .ok (.invokestatic index, 3)) (hf : cells + mc ≤ R.cells ∧ slots + ms ≤ R.slots) :
    vx_Run p l e R s m args below meth c H locs cells slots mc ms g rest (Qc As.toArray) XC free := by
  obtain ⟨⟨hrc, hrs, hfr, hlo, hws, hcw⟩, hcode, hini, hy, hlen, hl, hstt⟩ := cw
  have hK : vx_Back l R p e below s args y 3 8 (PreOf R mc ms Pc) (PostOf Qc mc ms free) (vx_Post XC mc ms free) := vx_backW (hh := hh) (bytes := bytes) (maxL := maxL) (ret := ret) hM hp.1 hrc hrs hfr hlo hws hcw (fun a' U hW => word_at hW (Or.inl (by first | rfl | simp [Cond.onTables, Cond.keeps, Cond.steady])) hini)
  obtain ⟨hx, hb, hml, ho, -⟩ := S
  intro T hT X
  rcases vx_callSX X hx (hh := hh) (bytes := bytes) (maxL := maxL) (ret := ret) ho hl hstt hini hcode hy hK hg (hsize.trans hml.symm) (argsL := As) (rest := rest) (fun sig h => hn.trans (hlen sig h)) hstack hW (by rw [hb]; exact hdg)
    (fun vm₁ hW₁ => ⟨hf.1, hf.2, hp.2 (T.setVm vm₁) hT hW₁⟩) with ⟨v, vm₁, ⟨U', l2, c2, s2⟩, hW₁, X', ⟨g', mk, t, L, e1, e2, hq, h1, hL, h2, h3⟩, st⟩ | ⟨q, vm₁, ⟨U', l2, c2, s2⟩, hW₁, X', ⟨g', mk, t, L, E, ce, e1, e2, hq, hce, hcv, hcl, h1, hL, h2, h3⟩, st⟩
  · dsimp only [Pt.U, Pt.locs, Pt.cells, Pt.slots] at X' e1 e2 h1 h2 h3 st
    subst h1; subst h2; subst h3
    exact Or.inl ⟨v, (T.setVm vm₁).calling g' mk As.toArray, t, U', L, hT, X', hL, e1, e2, hq, st⟩
  · dsimp only [Pt.U, Pt.locs, Pt.cells, Pt.slots] at X' e1 e2 h1 h2 h3 st hcl
    subst h1; subst h2; subst h3
    exact Or.inr ⟨q, (T.setVm vm₁).calling g' mk As.toArray, t, U', L, E, ce, hT, X', hL, e1, e2, hq, hce, hcv, vx_cls hW₁ hcl, st⟩
end
end VXH
theorem vx_ofWH {l : Launch} {y : MethodName} {ws ws' : List Cond} {rm : Room} {Pc : Array Value → State → Prop} {Qc : Array Value → State → Outcome → State → Prop} {XC : String → State → State → Prop} {mc ms : Nat} {free : Addr → Prop} {cc : ByteArray} {maxL : Nat} {ret : Option FieldType} {hh : List (Nat × Nat × Nat × Nat)}
    (hy : plainName y.cls = true) (hw : ws = Cond.codeWith y cc maxL ret hh :: ws')
    (body : ∀ p e s m args below meth c s₁, BodyLoose p l y (headSpec ws rm) cc maxL ret e s m args below meth c s₁ → c.maxLocals = maxL → Pc args s →
      W p l e (headSpec ws rm).room s m args below meth c s.heap [] 0 0 (vx_MQ below Qc XC args s mc ms free) (entryFrame m args maxL)) : vx_Met l y ws rm Pc Qc XC mc ms free := by
  refine MetFree.of_bodyS (code := cc) (maxLocals := maxL) (ret := ret) hy ?_ ?_
  · intro args s m h hn
    obtain ⟨m9, meth, c, hn9, h1, h2, h3, h4, -, h5, h6, -⟩ := Cond.codeWith_spec (atoms_spec (ws := ws) h _ (by rw [hw]; exact List.mem_cons_self))
    cases hn.symm.trans hn9
    exact ⟨meth, c, h1, h2, h3, h4, h5, h6⟩
  · intro p e s m args below meth c s₁ B hml hP _
    have hh0 : s₁.heap = s.heap := by rw [B.state]; rfl
    obtain ⟨t, a1, o, b1, b2, b3⟩ := body p e s m args below meth c s₁ B hml hP s₁ hh0 (Stand.of_body B)
    exact ⟨t, o, a1, b1, b2, b3⟩
/-! ===== END ===== -/
end
section
/-! ===== BEGIN printed: names, fields, word lists, decode rows ===== -/
def RX0 : String := "OutcastBench$CacheAndBench"
def TX0 : u_T := fun k => match k with
  | 0 => ("OutcastBench$CacheAndBench", "setCount", "I", false)
  | 1 => ("OutcastBench$CacheAndBench", "placeCount", "I", false)
  | 2 => ("OutcastBench$CacheAndBench", "lines", "[I", true)
  | 3 => ("OutcastBench$CacheAndBench", "bench", "[I", true)
  | 4 => ("OutcastBench$CacheAndBench", "seated", "I", false)
  | 5 => ("OutcastBench$CacheAndBench", "dirtyLines", "[Z", true)
  | 6 => ("OutcastBench$CacheAndBench", "hitCount", "I", false)
  | 7 => ("OutcastBench$CacheAndBench", "swapCount", "I", false)
  | 8 => ("OutcastBench$CacheAndBench", "missCount", "I", false)
  | 9 => ("OutcastBench$CacheAndBench", "homecomingCount", "I", false)
  | _ => ("OutcastBench$CacheAndBench", "costSoFar", "I", false)
def tyX0 : Nat → FieldType := fun k => match k with
  | 0 => .int
  | 1 => .int
  | 2 => .array .int
  | 3 => .array .int
  | 4 => .int
  | 5 => .array .boolean
  | 6 => .int
  | 7 => .int
  | 8 => .int
  | 9 => .int
  | _ => .int
abbrev wsX00 : List Cond := u_ws RX0 TX0 11
theorem nmX0 : ∀ a, a < 11 → ∀ b, b < 11 → a ≠ b → (TX0 a).2.1 ≠ (TX0 b).2.1 := by decide +kernel
theorem tyX0_ok : ∀ k, k < 11 → parseFieldDescriptor (TX0 k).2.2.1 = some (tyX0 k) := by decide +kernel
abbrev cX0_init : ByteArray := prog_2_method_1_code
def yX0_init : MethodName := ⟨RX0, "<init>", "(II)V"⟩
abbrev cX0_startEmpty : ByteArray := prog_2_method_2_code
def yX0_startEmpty : MethodName := ⟨RX0, "startEmpty", "(II)V"⟩
abbrev cX0_access : ByteArray := prog_2_method_3_code
def yX0_access : MethodName := ⟨RX0, "access", "(IZ)V"⟩
abbrev cX0_throwOut : ByteArray := prog_2_method_4_code
def yX0_throwOut : MethodName := ⟨RX0, "throwOut", "(I)V"⟩
abbrev cX0_leaveBench : ByteArray := prog_2_method_5_code
def yX0_leaveBench : MethodName := ⟨RX0, "leaveBench", "(I)V"⟩
abbrev cX0_bringAllHome : ByteArray := prog_2_method_6_code
def yX0_bringAllHome : MethodName := ⟨RX0, "bringAllHome", "()I"⟩
abbrev cX0_bringHomeIfDirty : ByteArray := prog_2_method_7_code
def yX0_bringHomeIfDirty : MethodName := ⟨RX0, "bringHomeIfDirty", "(I)V"⟩
abbrev cX0_countLines : ByteArray := prog_2_method_8_code
def yX0_countLines : MethodName := ⟨RX0, "countLines", "()I"⟩
abbrev cX0_countDirty : ByteArray := prog_2_method_9_code
def yX0_countDirty : MethodName := ⟨RX0, "countDirty", "()I"⟩
abbrev cX0_whereIs : ByteArray := prog_2_method_10_code
def yX0_whereIs : MethodName := ⟨RX0, "whereIs", "(I)I"⟩
abbrev cX0_setOf : ByteArray := prog_2_method_11_code
def yX0_setOf : MethodName := ⟨RX0, "setOf", "(I)I"⟩
abbrev cX0_seatOf : ByteArray := prog_2_method_12_code
def yX0_seatOf : MethodName := ⟨RX0, "seatOf", "(I)I"⟩
def RX1 : String := "OutcastBench$LastAccesses"
def TX1 : u_T := fun k => match k with
  | 0 => ("OutcastBench$LastAccesses", "lines", "[I", true)
  | 1 => ("OutcastBench$LastAccesses", "writes", "[Z", true)
  | 2 => ("OutcastBench$LastAccesses", "count", "I", false)
  | _ => ("OutcastBench$LastAccesses", "next", "I", false)
def tyX1 : Nat → FieldType := fun k => match k with
  | 0 => .array .int
  | 1 => .array .boolean
  | 2 => .int
  | _ => .int
abbrev wsX10 : List Cond := u_ws RX1 TX1 4
theorem nmX1 : ∀ a, a < 4 → ∀ b, b < 4 → a ≠ b → (TX1 a).2.1 ≠ (TX1 b).2.1 := by decide +kernel
theorem tyX1_ok : ∀ k, k < 4 → parseFieldDescriptor (TX1 k).2.2.1 = some (tyX1 k) := by decide +kernel
abbrev cX1_init : ByteArray := prog_3_method_1_code
def yX1_init : MethodName := ⟨RX1, "<init>", "()V"⟩
abbrev cX1_add : ByteArray := prog_3_method_2_code
def yX1_add : MethodName := ⟨RX1, "add", "(IZ)V"⟩
abbrev cX1_slotOf : ByteArray := prog_3_method_3_code
def yX1_slotOf : MethodName := ⟨RX1, "slotOf", "(I)I"⟩
def RX2 : String := "OutcastBench"
def TX2 : u_T := fun k => match k with
  | 0 => ("OutcastBench", "written", "[I", true)
  | 1 => ("OutcastBench", "home", "[I", true)
  | 2 => ("OutcastBench", "actual", "LOutcastBench$CacheAndBench;", true)
  | 3 => ("OutcastBench", "trial", "LOutcastBench$CacheAndBench;", true)
  | _ => ("OutcastBench", "last", "LOutcastBench$LastAccesses;", true)
def tyX2 : Nat → FieldType := fun k => match k with
  | 0 => .array .int
  | 1 => .array .int
  | 2 => .object "OutcastBench$CacheAndBench"
  | 3 => .object "OutcastBench$CacheAndBench"
  | _ => .object "OutcastBench$LastAccesses"
abbrev wsX20 : List Cond := u_ws RX2 TX2 5
theorem nmX2 : ∀ a, a < 5 → ∀ b, b < 5 → a ≠ b → (TX2 a).2.1 ≠ (TX2 b).2.1 := by decide +kernel
theorem tyX2_ok : ∀ k, k < 5 → parseFieldDescriptor (TX2 k).2.2.1 = some (tyX2 k) := by decide +kernel
abbrev cX2_init : ByteArray := prog_1_method_1_code
def yX2_init : MethodName := ⟨RX2, "<init>", "()V"⟩
abbrev cX2_read : ByteArray := prog_1_method_2_code
def yX2_read : MethodName := ⟨RX2, "read", "(I)I"⟩
abbrev cX2_write : ByteArray := prog_1_method_3_code
def yX2_write : MethodName := ⟨RX2, "write", "(II)I"⟩
abbrev cX2_walk : ByteArray := prog_1_method_4_code
def yX2_walk : MethodName := ⟨RX2, "walk", "(III)I"⟩
abbrev cX2_bringHome : ByteArray := prog_1_method_5_code
def yX2_bringHome : MethodName := ⟨RX2, "bringHome", "()I"⟩
abbrev cX2_build : ByteArray := prog_1_method_6_code
def yX2_build : MethodName := ⟨RX2, "build", "(II)I"⟩
abbrev cX2_cast : ByteArray := prog_1_method_7_code
def yX2_cast : MethodName := ⟨RX2, "cast", "(I)I"⟩
abbrev cX2_sets : ByteArray := prog_1_method_8_code
def yX2_sets : MethodName := ⟨RX2, "sets", "()I"⟩
abbrev cX2_places : ByteArray := prog_1_method_9_code
def yX2_places : MethodName := ⟨RX2, "places", "()I"⟩
abbrev cX2_lineIn : ByteArray := prog_1_method_10_code
def yX2_lineIn : MethodName := ⟨RX2, "lineIn", "(I)I"⟩
abbrev cX2_sitting : ByteArray := prog_1_method_11_code
def yX2_sitting : MethodName := ⟨RX2, "sitting", "()I"⟩
abbrev cX2_lineOnBench : ByteArray := prog_1_method_12_code
def yX2_lineOnBench : MethodName := ⟨RX2, "lineOnBench", "(I)I"⟩
abbrev cX2_placeOf : ByteArray := prog_1_method_13_code
def yX2_placeOf : MethodName := ⟨RX2, "placeOf", "(I)I"⟩
abbrev cX2_isDirty : ByteArray := prog_1_method_14_code
def yX2_isDirty : MethodName := ⟨RX2, "isDirty", "(I)Z"⟩
abbrev cX2_dirty : ByteArray := prog_1_method_15_code
def yX2_dirty : MethodName := ⟨RX2, "dirty", "()I"⟩
abbrev cX2_atHome : ByteArray := prog_1_method_16_code
def yX2_atHome : MethodName := ⟨RX2, "atHome", "(I)I"⟩
abbrev cX2_peek : ByteArray := prog_1_method_17_code
def yX2_peek : MethodName := ⟨RX2, "peek", "(I)I"⟩
abbrev cX2_hits : ByteArray := prog_1_method_18_code
def yX2_hits : MethodName := ⟨RX2, "hits", "()I"⟩
abbrev cX2_swaps : ByteArray := prog_1_method_19_code
def yX2_swaps : MethodName := ⟨RX2, "swaps", "()I"⟩
abbrev cX2_misses : ByteArray := prog_1_method_20_code
def yX2_misses : MethodName := ⟨RX2, "misses", "()I"⟩
abbrev cX2_homecomings : ByteArray := prog_1_method_21_code
def yX2_homecomings : MethodName := ⟨RX2, "homecomings", "()I"⟩
abbrev cX2_cost : ByteArray := prog_1_method_22_code
def yX2_cost : MethodName := ⟨RX2, "cost", "()I"⟩
abbrev cX2_wouldCost : ByteArray := prog_1_method_23_code
def yX2_wouldCost : MethodName := ⟨RX2, "wouldCost", "(II)I"⟩
abbrev cX2_bestPlaces : ByteArray := prog_1_method_24_code
def yX2_bestPlaces : MethodName := ⟨RX2, "bestPlaces", "()I"⟩
abbrev cX2_ask : ByteArray := prog_1_method_25_code
def yX2_ask : MethodName := ⟨RX2, "ask", "(IZ)V"⟩
abbrev cX2_keepHomeWords : ByteArray := prog_1_method_26_code
def yX2_keepHomeWords : MethodName := ⟨RX2, "keepHomeWords", "(I)V"⟩
abbrev cX2_costOfTrial : ByteArray := prog_1_method_27_code
def yX2_costOfTrial : MethodName := ⟨RX2, "costOfTrial", "(II)I"⟩
abbrev cX2_lineOf : ByteArray := prog_1_method_28_code
def yX2_lineOf : MethodName := ⟨RX2, "lineOf", "(I)I"⟩
abbrev cX2_requireWord : ByteArray := prog_1_method_29_code
def yX2_requireWord : MethodName := ⟨RX2, "requireWord", "(I)V"⟩
abbrev cX2_requireLine : ByteArray := prog_1_method_30_code
def yX2_requireLine : MethodName := ⟨RX2, "requireLine", "(I)V"⟩
abbrev cX2_requireSet : ByteArray := prog_1_method_31_code
def yX2_requireSet : MethodName := ⟨RX2, "requireSet", "(I)V"⟩
abbrev cX2_requireSize : ByteArray := prog_1_method_32_code
def yX2_requireSize : MethodName := ⟨RX2, "requireSize", "(II)V"⟩
def RX3 : String := "OutcastBenchModel"
def TX3 : u_T := fun k => match k with
  | _ => ("", "", "", false)
def tyX3 : Nat → FieldType := fun k => match k with
  | _ => .int
abbrev wsX30 : List Cond := u_ws RX3 TX3 0
theorem nmX3 : ∀ a, a < 0 → ∀ b, b < 0 → a ≠ b → (TX3 a).2.1 ≠ (TX3 b).2.1 := by decide +kernel
theorem tyX3_ok : ∀ k, k < 0 → parseFieldDescriptor (TX3 k).2.2.1 = some (tyX3 k) := by decide +kernel
def RJx145de : String := "java/io/Serializable"
def TJx145de : u_T := fun k => match k with
  | _ => ("", "", "", false)
def tyJx145de : Nat → FieldType := fun k => match k with
  | _ => .int
abbrev wsJx145de0 : List Cond := u_ws RJx145de TJx145de 0
theorem nmJx145de : ∀ a, a < 0 → ∀ b, b < 0 → a ≠ b → (TJx145de a).2.1 ≠ (TJx145de b).2.1 := by decide +kernel
theorem tyJx145de_ok : ∀ k, k < 0 → parseFieldDescriptor (TJx145de k).2.2.1 = some (tyJx145de k) := by decide +kernel
def RJ9 : String := "java/lang/Math"
def TJ9 : u_T := fun k => match k with
  | _ => ("", "", "", false)
def tyJ9 : Nat → FieldType := fun k => match k with
  | _ => .int
abbrev wsJ90 : List Cond := u_ws RJ9 TJ9 0
theorem nmJ9 : ∀ a, a < 0 → ∀ b, b < 0 → a ≠ b → (TJ9 a).2.1 ≠ (TJ9 b).2.1 := by decide +kernel
theorem tyJ9_ok : ∀ k, k < 0 → parseFieldDescriptor (TJ9 k).2.2.1 = some (tyJ9 k) := by decide +kernel
abbrev cJ9_floorMod_7cf53 : ByteArray := prog_10_method_50_code
def yJ9_floorMod_7cf53 : MethodName := ⟨RJ9, "floorMod", "(II)I"⟩
def RJ0 : String := "java/lang/String"
def TJ0 : u_T := fun k => match k with
  | _ => ("", "", "", false)
def tyJ0 : Nat → FieldType := fun k => match k with
  | _ => .int
abbrev wsJ00 : List Cond := u_ws RJ0 TJ0 0
theorem nmJ0 : ∀ a, a < 0 → ∀ b, b < 0 → a ≠ b → (TJ0 a).2.1 ≠ (TJ0 b).2.1 := by decide +kernel
theorem tyJ0_ok : ∀ k, k < 0 → parseFieldDescriptor (TJ0 k).2.2.1 = some (tyJ0 k) := by decide +kernel
def RJ10 : String := "java/lang/System"
def TJ10 : u_T := fun k => match k with
  | _ => ("", "", "", false)
def tyJ10 : Nat → FieldType := fun k => match k with
  | _ => .int
abbrev wsJ100 : List Cond := u_ws RJ10 TJ10 0
theorem nmJ10 : ∀ a, a < 0 → ∀ b, b < 0 → a ≠ b → (TJ10 a).2.1 ≠ (TJ10 b).2.1 := by decide +kernel
theorem tyJ10_ok : ∀ k, k < 0 → parseFieldDescriptor (TJ10 k).2.2.1 = some (tyJ10 k) := by decide +kernel
def RJ7 : String := "java/util/Arrays"
def TJ7 : u_T := fun k => match k with
  | _ => ("", "", "", false)
def tyJ7 : Nat → FieldType := fun k => match k with
  | _ => .int
abbrev wsJ70 : List Cond := u_ws RJ7 TJ7 0
theorem nmJ7 : ∀ a, a < 0 → ∀ b, b < 0 → a ≠ b → (TJ7 a).2.1 ≠ (TJ7 b).2.1 := by decide +kernel
theorem tyJ7_ok : ∀ k, k < 0 → parseFieldDescriptor (TJ7 k).2.2.1 = some (tyJ7 k) := by decide +kernel
abbrev cJ7_fill_53178 : ByteArray := prog_15_method_103_code
def yJ7_fill_53178 : MethodName := ⟨RJ7, "fill", "([II)V"⟩
def RL : String := "OutcastBenchLaw"
abbrev cL_drawn : ByteArray := method_2_code
def yL_drawn : MethodName := ⟨RL, "drawn", "([III)I"⟩
abbrev cL_isInOrder : ByteArray := method_3_code
def yL_isInOrder : MethodName := ⟨RL, "isInOrder", "(LOutcastBench;)Z"⟩
abbrev cL_address : ByteArray := method_4_code
def yL_address : MethodName := ⟨RL, "address", "(I)I"⟩
abbrev cL_law : ByteArray := code
def yL_law : MethodName := ⟨RL, "law", "([I)Z"⟩
def wsJ7_fill_53178 : List Cond := .code yJ7_fill_53178 cJ7_fill_53178 4 none :: ([])
def wsX0_startEmpty : List Cond := .code yX0_startEmpty cX0_startEmpty 4 none :: ([.fieldLink RX0 26 "OutcastBench$CacheAndBench" "setCount" "I", .fieldLink RX0 30 "OutcastBench$CacheAndBench" "placeCount" "I", .fieldLink RX0 9 "OutcastBench$CacheAndBench" "lines" "[I", .fieldLink RX0 39 "OutcastBench$CacheAndBench" "seated" "I", .fieldLink RX0 18 "OutcastBench$CacheAndBench" "dirtyLines" "[Z", .methodLink RX0 33 yJ7_fill_53178, .static yJ7_fill_53178, .initialized RJ7, .code yJ7_fill_53178 cJ7_fill_53178 4 none] ++ wsX00)
def wsX0_init : List Cond := .code yX0_init cX0_init 3 none :: ([.methodLink RX0 3 objectInit, .instanceMethod objectInit, .code objectInit ⟨#[0xb1]⟩ 1 none, .arrayClass .int, .fieldLink RX0 9 "OutcastBench$CacheAndBench" "lines" "[I", .fieldLink RX0 15 "OutcastBench$CacheAndBench" "bench" "[I", .arrayClass .boolean, .fieldLink RX0 18 "OutcastBench$CacheAndBench" "dirtyLines" "[Z", .methodLink RX0 22 yX0_startEmpty, .instanceMethod yX0_startEmpty, .selects RX0 yX0_startEmpty yX0_startEmpty, .initialized RX0, .code yX0_startEmpty cX0_startEmpty 4 none, .fieldLink RX0 26 "OutcastBench$CacheAndBench" "setCount" "I", .fieldLink RX0 30 "OutcastBench$CacheAndBench" "placeCount" "I", .fieldLink RX0 39 "OutcastBench$CacheAndBench" "seated" "I", .methodLink RX0 33 yJ7_fill_53178, .static yJ7_fill_53178, .initialized RJ7, .code yJ7_fill_53178 cJ7_fill_53178 4 none] ++ wsX00)
def wsX0_setOf : List Cond := .code yX0_setOf cX0_setOf 2 (some .int) :: ([.fieldLink RX0 26 "OutcastBench$CacheAndBench" "setCount" "I"] ++ wsX00)
def wsX0_seatOf : List Cond := .code yX0_seatOf cX0_seatOf 3 (some .int) :: ([.fieldLink RX0 39 "OutcastBench$CacheAndBench" "seated" "I", .fieldLink RX0 15 "OutcastBench$CacheAndBench" "bench" "[I"] ++ wsX00)
def wsX0_leaveBench : List Cond := .code yX0_leaveBench cX0_leaveBench 3 none :: ([.fieldLink RX0 39 "OutcastBench$CacheAndBench" "seated" "I", .fieldLink RX0 15 "OutcastBench$CacheAndBench" "bench" "[I"] ++ wsX00)
def wsX0_bringHomeIfDirty : List Cond := .code yX0_bringHomeIfDirty cX0_bringHomeIfDirty 2 none :: ([.fieldLink RX0 18 "OutcastBench$CacheAndBench" "dirtyLines" "[Z", .fieldLink RX0 71 "OutcastBench$CacheAndBench" "homecomingCount" "I", .fieldLink RX0 49 "OutcastBench$CacheAndBench" "costSoFar" "I"] ++ wsX00)
def wsX0_throwOut : List Cond := .code yX0_throwOut cX0_throwOut 3 none :: ([.fieldLink RX0 9 "OutcastBench$CacheAndBench" "lines" "[I", .fieldLink RX0 30 "OutcastBench$CacheAndBench" "placeCount" "I", .fieldLink RX0 39 "OutcastBench$CacheAndBench" "seated" "I", .fieldLink RX0 15 "OutcastBench$CacheAndBench" "bench" "[I", .methodLink RX0 68 yX0_bringHomeIfDirty, .instanceMethod yX0_bringHomeIfDirty, .selects RX0 yX0_bringHomeIfDirty yX0_bringHomeIfDirty, .initialized RX0, .code yX0_bringHomeIfDirty cX0_bringHomeIfDirty 2 none, .fieldLink RX0 18 "OutcastBench$CacheAndBench" "dirtyLines" "[Z", .fieldLink RX0 71 "OutcastBench$CacheAndBench" "homecomingCount" "I", .fieldLink RX0 49 "OutcastBench$CacheAndBench" "costSoFar" "I", .methodLink RX0 61 yX0_leaveBench, .instanceMethod yX0_leaveBench, .selects RX0 yX0_leaveBench yX0_leaveBench, .code yX0_leaveBench cX0_leaveBench 3 none] ++ wsX00)
def wsX0_access_r1 : List Cond := [Cond.fieldLink RX0 9 "OutcastBench$CacheAndBench" "lines" "[I", Cond.fieldLink RX0 46 "OutcastBench$CacheAndBench" "hitCount" "I", Cond.fieldLink RX0 49 "OutcastBench$CacheAndBench" "costSoFar" "I", Cond.fieldLink RX0 55 "OutcastBench$CacheAndBench" "missCount" "I", Cond.fieldLink RX0 58 "OutcastBench$CacheAndBench" "swapCount" "I", Cond.fieldLink RX0 18 "OutcastBench$CacheAndBench" "dirtyLines" "[Z", Cond.methodLink RX0 42 yX0_setOf, Cond.instanceMethod yX0_setOf, Cond.selects RX0 yX0_setOf yX0_setOf, Cond.initialized RX0, Cond.code yX0_setOf cX0_setOf 2 (some .int), Cond.fieldLink RX0 26 "OutcastBench$CacheAndBench" "setCount" "I", Cond.methodLink RX0 52 yX0_seatOf, Cond.instanceMethod yX0_seatOf, Cond.selects RX0 yX0_seatOf yX0_seatOf, Cond.code yX0_seatOf cX0_seatOf 3 (some .int), Cond.fieldLink RX0 39 "OutcastBench$CacheAndBench" "seated" "I", Cond.fieldLink RX0 15 "OutcastBench$CacheAndBench" "bench" "[I", Cond.methodLink RX0 61 yX0_leaveBench, Cond.instanceMethod yX0_leaveBench, Cond.selects RX0 yX0_leaveBench yX0_leaveBench, Cond.code yX0_leaveBench cX0_leaveBench 3 none, Cond.methodLink RX0 65 yX0_throwOut, Cond.instanceMethod yX0_throwOut]
def wsX0_access_r2 : List Cond := [Cond.selects RX0 yX0_throwOut yX0_throwOut, Cond.code yX0_throwOut cX0_throwOut 3 none, Cond.fieldLink RX0 30 "OutcastBench$CacheAndBench" "placeCount" "I", Cond.methodLink RX0 68 yX0_bringHomeIfDirty, Cond.instanceMethod yX0_bringHomeIfDirty, Cond.selects RX0 yX0_bringHomeIfDirty yX0_bringHomeIfDirty, Cond.code yX0_bringHomeIfDirty cX0_bringHomeIfDirty 2 none, Cond.fieldLink RX0 71 "OutcastBench$CacheAndBench" "homecomingCount" "I"]
def wsX0_access : List Cond := .code yX0_access cX0_access 5 none :: ((wsX0_access_r1 ++ wsX0_access_r2) ++ wsX00)
def wsX0_bringAllHome : List Cond := .code yX0_bringAllHome cX0_bringAllHome 3 (some .int) :: ([.fieldLink RX0 71 "OutcastBench$CacheAndBench" "homecomingCount" "I", .fieldLink RX0 26 "OutcastBench$CacheAndBench" "setCount" "I", .fieldLink RX0 9 "OutcastBench$CacheAndBench" "lines" "[I", .fieldLink RX0 39 "OutcastBench$CacheAndBench" "seated" "I", .fieldLink RX0 15 "OutcastBench$CacheAndBench" "bench" "[I", .methodLink RX0 68 yX0_bringHomeIfDirty, .instanceMethod yX0_bringHomeIfDirty, .selects RX0 yX0_bringHomeIfDirty yX0_bringHomeIfDirty, .initialized RX0, .code yX0_bringHomeIfDirty cX0_bringHomeIfDirty 2 none, .fieldLink RX0 18 "OutcastBench$CacheAndBench" "dirtyLines" "[Z", .fieldLink RX0 49 "OutcastBench$CacheAndBench" "costSoFar" "I"] ++ wsX00)
def wsX0_countLines : List Cond := .code yX0_countLines cX0_countLines 3 (some .int) :: ([.fieldLink RX0 39 "OutcastBench$CacheAndBench" "seated" "I", .fieldLink RX0 26 "OutcastBench$CacheAndBench" "setCount" "I", .fieldLink RX0 9 "OutcastBench$CacheAndBench" "lines" "[I"] ++ wsX00)
def wsX0_countDirty : List Cond := .code yX0_countDirty cX0_countDirty 3 (some .int) :: ([.fieldLink RX0 18 "OutcastBench$CacheAndBench" "dirtyLines" "[Z"] ++ wsX00)
def wsX0_whereIs : List Cond := .code yX0_whereIs cX0_whereIs 2 (some .int) :: ([.fieldLink RX0 9 "OutcastBench$CacheAndBench" "lines" "[I", .methodLink RX0 42 yX0_setOf, .instanceMethod yX0_setOf, .selects RX0 yX0_setOf yX0_setOf, .initialized RX0, .code yX0_setOf cX0_setOf 2 (some .int), .fieldLink RX0 26 "OutcastBench$CacheAndBench" "setCount" "I", .methodLink RX0 52 yX0_seatOf, .instanceMethod yX0_seatOf, .selects RX0 yX0_seatOf yX0_seatOf, .code yX0_seatOf cX0_seatOf 3 (some .int), .fieldLink RX0 39 "OutcastBench$CacheAndBench" "seated" "I", .fieldLink RX0 15 "OutcastBench$CacheAndBench" "bench" "[I"] ++ wsX00)
def wsX1_init : List Cond := .code yX1_init cX1_init 1 none :: ([.methodLink RX1 3 objectInit, .instanceMethod objectInit, .code objectInit ⟨#[0xb1]⟩ 1 none, .arrayClass .int, .fieldLink RX1 9 "OutcastBench$LastAccesses" "lines" "[I", .arrayClass .boolean, .fieldLink RX1 15 "OutcastBench$LastAccesses" "writes" "[Z"] ++ wsX10)
def wsX1_add : List Cond := .code yX1_add cX1_add 3 none :: ([.fieldLink RX1 9 "OutcastBench$LastAccesses" "lines" "[I", .fieldLink RX1 19 "OutcastBench$LastAccesses" "next" "I", .fieldLink RX1 15 "OutcastBench$LastAccesses" "writes" "[Z", .fieldLink RX1 23 "OutcastBench$LastAccesses" "count" "I"] ++ wsX10)
def wsX1_slotOf : List Cond := .code yX1_slotOf cX1_slotOf 3 (some .int) :: ([.fieldLink RX1 23 "OutcastBench$LastAccesses" "count" "I", .fieldLink RX1 19 "OutcastBench$LastAccesses" "next" "I"] ++ wsX10)
def wsX2_init_r1 : List Cond := [Cond.methodLink RX2 3 objectInit, Cond.instanceMethod objectInit, Cond.code objectInit ⟨#[0xb1]⟩ 1 none, Cond.arrayClass .int, Cond.fieldLink RX2 9 "OutcastBench" "written" "[I", Cond.fieldLink RX2 13 "OutcastBench" "home" "[I", Cond.classLink RX2 16 RX0, Cond.instantiable RX0 11, Cond.initialized RX0, Cond.fieldLink RX2 21 "OutcastBench" "actual" "LOutcastBench$CacheAndBench;", Cond.fieldLink RX2 25 "OutcastBench" "trial" "LOutcastBench$CacheAndBench;", Cond.classLink RX2 28 RX1, Cond.instantiable RX1 4, Cond.initialized RX1, Cond.fieldLink RX2 31 "OutcastBench" "last" "LOutcastBench$LastAccesses;", Cond.methodLink RX2 18 yX0_init, Cond.instanceMethod yX0_init, Cond.code yX0_init cX0_init 3 none, Cond.methodLink RX0 3 objectInit, Cond.fieldLink RX0 9 "OutcastBench$CacheAndBench" "lines" "[I", Cond.fieldLink RX0 15 "OutcastBench$CacheAndBench" "bench" "[I", Cond.arrayClass .boolean, Cond.fieldLink RX0 18 "OutcastBench$CacheAndBench" "dirtyLines" "[Z", Cond.methodLink RX0 22 yX0_startEmpty]
def wsX2_init_r2 : List Cond := [Cond.instanceMethod yX0_startEmpty, Cond.selects RX0 yX0_startEmpty yX0_startEmpty, Cond.code yX0_startEmpty cX0_startEmpty 4 none, Cond.fieldLink RX0 26 "OutcastBench$CacheAndBench" "setCount" "I", Cond.fieldLink RX0 30 "OutcastBench$CacheAndBench" "placeCount" "I", Cond.fieldLink RX0 39 "OutcastBench$CacheAndBench" "seated" "I", Cond.methodLink RX0 33 yJ7_fill_53178, Cond.static yJ7_fill_53178, Cond.initialized RJ7, Cond.code yJ7_fill_53178 cJ7_fill_53178 4 none, Cond.instanceMethod yX1_init, Cond.code yX1_init cX1_init 1 none, Cond.methodLink RX1 3 objectInit, Cond.fieldLink RX1 9 "OutcastBench$LastAccesses" "lines" "[I", Cond.fieldLink RX1 15 "OutcastBench$LastAccesses" "writes" "[Z"]
def wsX2_init : List Cond := .code yX2_init cX2_init 1 none :: ((wsX2_init_r1 ++ wsX2_init_r2) ++ wsX20 ++ wsX00 ++ wsX10)
def wsX2_requireWord : List Cond := .code yX2_requireWord cX2_requireWord 1 none :: ([.classLink RX2 107 "java/lang/IndexOutOfBoundsException", .initialized "java/lang/IndexOutOfBoundsException"] ++ (vx_atS RX2 111 "java/lang/IndexOutOfBoundsException" ["java/lang/RuntimeException", "java/lang/Exception"]).filter goodWord)
def wsX2_lineOf : List Cond := .code yX2_lineOf cX2_lineOf 1 (some .int) :: ([])
def wsX2_ask_r1 : List Cond := [Cond.fieldLink RX2 21 "OutcastBench" "actual" "LOutcastBench$CacheAndBench;", Cond.fieldLink RX2 31 "OutcastBench" "last" "LOutcastBench$LastAccesses;", Cond.methodLink RX2 139 yX0_access, Cond.instanceMethod yX0_access, Cond.selects RX0 yX0_access yX0_access, Cond.initialized RX0, Cond.code yX0_access cX0_access 5 none, Cond.fieldLink RX0 9 "OutcastBench$CacheAndBench" "lines" "[I", Cond.fieldLink RX0 46 "OutcastBench$CacheAndBench" "hitCount" "I", Cond.fieldLink RX0 49 "OutcastBench$CacheAndBench" "costSoFar" "I", Cond.fieldLink RX0 55 "OutcastBench$CacheAndBench" "missCount" "I", Cond.fieldLink RX0 58 "OutcastBench$CacheAndBench" "swapCount" "I", Cond.fieldLink RX0 18 "OutcastBench$CacheAndBench" "dirtyLines" "[Z", Cond.methodLink RX0 42 yX0_setOf, Cond.instanceMethod yX0_setOf, Cond.selects RX0 yX0_setOf yX0_setOf, Cond.code yX0_setOf cX0_setOf 2 (some .int), Cond.fieldLink RX0 26 "OutcastBench$CacheAndBench" "setCount" "I", Cond.methodLink RX0 52 yX0_seatOf, Cond.instanceMethod yX0_seatOf, Cond.selects RX0 yX0_seatOf yX0_seatOf, Cond.code yX0_seatOf cX0_seatOf 3 (some .int), Cond.fieldLink RX0 39 "OutcastBench$CacheAndBench" "seated" "I", Cond.fieldLink RX0 15 "OutcastBench$CacheAndBench" "bench" "[I"]
def wsX2_ask_r2 : List Cond := [Cond.methodLink RX0 61 yX0_leaveBench, Cond.instanceMethod yX0_leaveBench, Cond.selects RX0 yX0_leaveBench yX0_leaveBench, Cond.code yX0_leaveBench cX0_leaveBench 3 none, Cond.methodLink RX0 65 yX0_throwOut, Cond.instanceMethod yX0_throwOut, Cond.selects RX0 yX0_throwOut yX0_throwOut, Cond.code yX0_throwOut cX0_throwOut 3 none, Cond.fieldLink RX0 30 "OutcastBench$CacheAndBench" "placeCount" "I", Cond.methodLink RX0 68 yX0_bringHomeIfDirty, Cond.instanceMethod yX0_bringHomeIfDirty, Cond.selects RX0 yX0_bringHomeIfDirty yX0_bringHomeIfDirty, Cond.code yX0_bringHomeIfDirty cX0_bringHomeIfDirty 2 none, Cond.fieldLink RX0 71 "OutcastBench$CacheAndBench" "homecomingCount" "I", Cond.methodLink RX2 142 yX1_add, Cond.instanceMethod yX1_add, Cond.selects RX1 yX1_add yX1_add, Cond.initialized RX1, Cond.code yX1_add cX1_add 3 none, Cond.fieldLink RX1 9 "OutcastBench$LastAccesses" "lines" "[I", Cond.fieldLink RX1 19 "OutcastBench$LastAccesses" "next" "I", Cond.fieldLink RX1 15 "OutcastBench$LastAccesses" "writes" "[Z", Cond.fieldLink RX1 23 "OutcastBench$LastAccesses" "count" "I"]
def wsX2_ask : List Cond := .code yX2_ask cX2_ask 3 none :: ((wsX2_ask_r1 ++ wsX2_ask_r2) ++ wsX20 ++ wsX00 ++ wsX10)
def wsX2_read_r1 : List Cond := [Cond.fieldLink RX2 9 "OutcastBench" "written" "[I", Cond.methodLink RX2 35 yX2_requireWord, Cond.static yX2_requireWord, Cond.initialized RX2, Cond.code yX2_requireWord cX2_requireWord 1 none, Cond.classLink RX2 107 "java/lang/IndexOutOfBoundsException", Cond.initialized "java/lang/IndexOutOfBoundsException", Cond.methodLink RX2 39 yX2_lineOf, Cond.static yX2_lineOf, Cond.code yX2_lineOf cX2_lineOf 1 (some .int), Cond.methodLink RX2 43 yX2_ask, Cond.instanceMethod yX2_ask, Cond.selects RX2 yX2_ask yX2_ask, Cond.code yX2_ask cX2_ask 3 none, Cond.fieldLink RX2 21 "OutcastBench" "actual" "LOutcastBench$CacheAndBench;", Cond.fieldLink RX2 31 "OutcastBench" "last" "LOutcastBench$LastAccesses;", Cond.methodLink RX2 139 yX0_access, Cond.instanceMethod yX0_access, Cond.selects RX0 yX0_access yX0_access, Cond.initialized RX0, Cond.code yX0_access cX0_access 5 none, Cond.fieldLink RX0 9 "OutcastBench$CacheAndBench" "lines" "[I", Cond.fieldLink RX0 46 "OutcastBench$CacheAndBench" "hitCount" "I", Cond.fieldLink RX0 49 "OutcastBench$CacheAndBench" "costSoFar" "I"]
def wsX2_read_r2 : List Cond := [Cond.fieldLink RX0 55 "OutcastBench$CacheAndBench" "missCount" "I", Cond.fieldLink RX0 58 "OutcastBench$CacheAndBench" "swapCount" "I", Cond.fieldLink RX0 18 "OutcastBench$CacheAndBench" "dirtyLines" "[Z", Cond.methodLink RX0 42 yX0_setOf, Cond.instanceMethod yX0_setOf, Cond.selects RX0 yX0_setOf yX0_setOf, Cond.code yX0_setOf cX0_setOf 2 (some .int), Cond.fieldLink RX0 26 "OutcastBench$CacheAndBench" "setCount" "I", Cond.methodLink RX0 52 yX0_seatOf, Cond.instanceMethod yX0_seatOf, Cond.selects RX0 yX0_seatOf yX0_seatOf, Cond.code yX0_seatOf cX0_seatOf 3 (some .int), Cond.fieldLink RX0 39 "OutcastBench$CacheAndBench" "seated" "I", Cond.fieldLink RX0 15 "OutcastBench$CacheAndBench" "bench" "[I", Cond.methodLink RX0 61 yX0_leaveBench, Cond.instanceMethod yX0_leaveBench, Cond.selects RX0 yX0_leaveBench yX0_leaveBench, Cond.code yX0_leaveBench cX0_leaveBench 3 none, Cond.methodLink RX0 65 yX0_throwOut, Cond.instanceMethod yX0_throwOut, Cond.selects RX0 yX0_throwOut yX0_throwOut, Cond.code yX0_throwOut cX0_throwOut 3 none, Cond.fieldLink RX0 30 "OutcastBench$CacheAndBench" "placeCount" "I", Cond.methodLink RX0 68 yX0_bringHomeIfDirty]
def wsX2_read_r3 : List Cond := [Cond.instanceMethod yX0_bringHomeIfDirty, Cond.selects RX0 yX0_bringHomeIfDirty yX0_bringHomeIfDirty, Cond.code yX0_bringHomeIfDirty cX0_bringHomeIfDirty 2 none, Cond.fieldLink RX0 71 "OutcastBench$CacheAndBench" "homecomingCount" "I", Cond.methodLink RX2 142 yX1_add, Cond.instanceMethod yX1_add, Cond.selects RX1 yX1_add yX1_add, Cond.initialized RX1, Cond.code yX1_add cX1_add 3 none, Cond.fieldLink RX1 9 "OutcastBench$LastAccesses" "lines" "[I", Cond.fieldLink RX1 19 "OutcastBench$LastAccesses" "next" "I", Cond.fieldLink RX1 15 "OutcastBench$LastAccesses" "writes" "[Z", Cond.fieldLink RX1 23 "OutcastBench$LastAccesses" "count" "I"]
def wsX2_read : List Cond := .code yX2_read cX2_read 2 (some .int) :: ((wsX2_read_r1 ++ (wsX2_read_r2 ++ wsX2_read_r3)) ++ wsX20 ++ wsX00 ++ wsX10 ++ (vx_atS RX2 111 "java/lang/IndexOutOfBoundsException" ["java/lang/RuntimeException", "java/lang/Exception"]).filter goodWord)
def wsX2_keepHomeWords : List Cond := .code yX2_keepHomeWords cX2_keepHomeWords 3 none :: ([.fieldLink RX2 9 "OutcastBench" "written" "[I", .fieldLink RX2 13 "OutcastBench" "home" "[I", .methodLink RX2 145 arraycopyName, .native arraycopyName, .static arraycopyName, .initialized "java/lang/System"] ++ wsX20)
def wsX2_write_r1 : List Cond := [Cond.fieldLink RX2 21 "OutcastBench" "actual" "LOutcastBench$CacheAndBench;", Cond.fieldLink RX2 47 "OutcastBench$CacheAndBench" "dirtyLines" "[Z", Cond.fieldLink RX2 9 "OutcastBench" "written" "[I", Cond.methodLink RX2 35 yX2_requireWord, Cond.static yX2_requireWord, Cond.initialized RX2, Cond.code yX2_requireWord cX2_requireWord 1 none, Cond.classLink RX2 107 "java/lang/IndexOutOfBoundsException", Cond.initialized "java/lang/IndexOutOfBoundsException", Cond.methodLink RX2 39 yX2_lineOf, Cond.static yX2_lineOf, Cond.code yX2_lineOf cX2_lineOf 1 (some .int), Cond.methodLink RX2 51 yX2_keepHomeWords, Cond.instanceMethod yX2_keepHomeWords, Cond.selects RX2 yX2_keepHomeWords yX2_keepHomeWords, Cond.code yX2_keepHomeWords cX2_keepHomeWords 3 none, Cond.fieldLink RX2 13 "OutcastBench" "home" "[I", Cond.methodLink RX2 145 arraycopyName, Cond.native arraycopyName, Cond.static arraycopyName, Cond.initialized "java/lang/System", Cond.methodLink RX2 43 yX2_ask, Cond.instanceMethod yX2_ask, Cond.selects RX2 yX2_ask yX2_ask]
def wsX2_write_r2 : List Cond := [Cond.code yX2_ask cX2_ask 3 none, Cond.fieldLink RX2 31 "OutcastBench" "last" "LOutcastBench$LastAccesses;", Cond.methodLink RX2 139 yX0_access, Cond.instanceMethod yX0_access, Cond.selects RX0 yX0_access yX0_access, Cond.initialized RX0, Cond.code yX0_access cX0_access 5 none, Cond.fieldLink RX0 9 "OutcastBench$CacheAndBench" "lines" "[I", Cond.fieldLink RX0 46 "OutcastBench$CacheAndBench" "hitCount" "I", Cond.fieldLink RX0 49 "OutcastBench$CacheAndBench" "costSoFar" "I", Cond.fieldLink RX0 55 "OutcastBench$CacheAndBench" "missCount" "I", Cond.fieldLink RX0 58 "OutcastBench$CacheAndBench" "swapCount" "I", Cond.fieldLink RX0 18 "OutcastBench$CacheAndBench" "dirtyLines" "[Z", Cond.methodLink RX0 42 yX0_setOf, Cond.instanceMethod yX0_setOf, Cond.selects RX0 yX0_setOf yX0_setOf, Cond.code yX0_setOf cX0_setOf 2 (some .int), Cond.fieldLink RX0 26 "OutcastBench$CacheAndBench" "setCount" "I", Cond.methodLink RX0 52 yX0_seatOf, Cond.instanceMethod yX0_seatOf, Cond.selects RX0 yX0_seatOf yX0_seatOf, Cond.code yX0_seatOf cX0_seatOf 3 (some .int), Cond.fieldLink RX0 39 "OutcastBench$CacheAndBench" "seated" "I", Cond.fieldLink RX0 15 "OutcastBench$CacheAndBench" "bench" "[I"]
def wsX2_write_r3 : List Cond := [Cond.methodLink RX0 61 yX0_leaveBench, Cond.instanceMethod yX0_leaveBench, Cond.selects RX0 yX0_leaveBench yX0_leaveBench, Cond.code yX0_leaveBench cX0_leaveBench 3 none, Cond.methodLink RX0 65 yX0_throwOut, Cond.instanceMethod yX0_throwOut, Cond.selects RX0 yX0_throwOut yX0_throwOut, Cond.code yX0_throwOut cX0_throwOut 3 none, Cond.fieldLink RX0 30 "OutcastBench$CacheAndBench" "placeCount" "I", Cond.methodLink RX0 68 yX0_bringHomeIfDirty, Cond.instanceMethod yX0_bringHomeIfDirty, Cond.selects RX0 yX0_bringHomeIfDirty yX0_bringHomeIfDirty, Cond.code yX0_bringHomeIfDirty cX0_bringHomeIfDirty 2 none, Cond.fieldLink RX0 71 "OutcastBench$CacheAndBench" "homecomingCount" "I", Cond.methodLink RX2 142 yX1_add, Cond.instanceMethod yX1_add, Cond.selects RX1 yX1_add yX1_add, Cond.initialized RX1, Cond.code yX1_add cX1_add 3 none, Cond.fieldLink RX1 9 "OutcastBench$LastAccesses" "lines" "[I", Cond.fieldLink RX1 19 "OutcastBench$LastAccesses" "next" "I", Cond.fieldLink RX1 15 "OutcastBench$LastAccesses" "writes" "[Z", Cond.fieldLink RX1 23 "OutcastBench$LastAccesses" "count" "I"]
def wsX2_write : List Cond := .code yX2_write cX2_write 5 (some .int) :: ((wsX2_write_r1 ++ (wsX2_write_r2 ++ wsX2_write_r3)) ++ wsX20 ++ wsX00 ++ wsX10 ++ (vx_atS RX2 111 "java/lang/IndexOutOfBoundsException" ["java/lang/RuntimeException", "java/lang/Exception"]).filter goodWord)
def wsJ9_floorMod_7cf53 : List Cond := .code yJ9_floorMod_7cf53 cJ9_floorMod_7cf53 3 (some .int) :: ([])
def wsX2_walk_r1 : List Cond := [Cond.classLink RX2 54 "java/lang/IllegalArgumentException", Cond.initialized "java/lang/IllegalArgumentException", Cond.fieldLink RX2 21 "OutcastBench" "actual" "LOutcastBench$CacheAndBench;", Cond.fieldLink RX2 61 "OutcastBench$CacheAndBench" "costSoFar" "I", Cond.methodLink RX2 35 yX2_requireWord, Cond.static yX2_requireWord, Cond.initialized RX2, Cond.code yX2_requireWord cX2_requireWord 1 none, Cond.classLink RX2 107 "java/lang/IndexOutOfBoundsException", Cond.initialized "java/lang/IndexOutOfBoundsException", Cond.methodLink RX2 39 yX2_lineOf, Cond.static yX2_lineOf, Cond.code yX2_lineOf cX2_lineOf 1 (some .int), Cond.methodLink RX2 43 yX2_ask, Cond.instanceMethod yX2_ask, Cond.selects RX2 yX2_ask yX2_ask, Cond.code yX2_ask cX2_ask 3 none, Cond.fieldLink RX2 31 "OutcastBench" "last" "LOutcastBench$LastAccesses;", Cond.methodLink RX2 139 yX0_access, Cond.instanceMethod yX0_access, Cond.selects RX0 yX0_access yX0_access, Cond.initialized RX0, Cond.code yX0_access cX0_access 5 none, Cond.fieldLink RX0 9 "OutcastBench$CacheAndBench" "lines" "[I"]
def wsX2_walk_r2 : List Cond := [Cond.fieldLink RX0 46 "OutcastBench$CacheAndBench" "hitCount" "I", Cond.fieldLink RX0 49 "OutcastBench$CacheAndBench" "costSoFar" "I", Cond.fieldLink RX0 55 "OutcastBench$CacheAndBench" "missCount" "I", Cond.fieldLink RX0 58 "OutcastBench$CacheAndBench" "swapCount" "I", Cond.fieldLink RX0 18 "OutcastBench$CacheAndBench" "dirtyLines" "[Z", Cond.methodLink RX0 42 yX0_setOf, Cond.instanceMethod yX0_setOf, Cond.selects RX0 yX0_setOf yX0_setOf, Cond.code yX0_setOf cX0_setOf 2 (some .int), Cond.fieldLink RX0 26 "OutcastBench$CacheAndBench" "setCount" "I", Cond.methodLink RX0 52 yX0_seatOf, Cond.instanceMethod yX0_seatOf, Cond.selects RX0 yX0_seatOf yX0_seatOf, Cond.code yX0_seatOf cX0_seatOf 3 (some .int), Cond.fieldLink RX0 39 "OutcastBench$CacheAndBench" "seated" "I", Cond.fieldLink RX0 15 "OutcastBench$CacheAndBench" "bench" "[I", Cond.methodLink RX0 61 yX0_leaveBench, Cond.instanceMethod yX0_leaveBench, Cond.selects RX0 yX0_leaveBench yX0_leaveBench, Cond.code yX0_leaveBench cX0_leaveBench 3 none, Cond.methodLink RX0 65 yX0_throwOut, Cond.instanceMethod yX0_throwOut, Cond.selects RX0 yX0_throwOut yX0_throwOut, Cond.code yX0_throwOut cX0_throwOut 3 none]
def wsX2_walk_r3 : List Cond := [Cond.fieldLink RX0 30 "OutcastBench$CacheAndBench" "placeCount" "I", Cond.methodLink RX0 68 yX0_bringHomeIfDirty, Cond.instanceMethod yX0_bringHomeIfDirty, Cond.selects RX0 yX0_bringHomeIfDirty yX0_bringHomeIfDirty, Cond.code yX0_bringHomeIfDirty cX0_bringHomeIfDirty 2 none, Cond.fieldLink RX0 71 "OutcastBench$CacheAndBench" "homecomingCount" "I", Cond.methodLink RX2 142 yX1_add, Cond.instanceMethod yX1_add, Cond.selects RX1 yX1_add yX1_add, Cond.initialized RX1, Cond.code yX1_add cX1_add 3 none, Cond.fieldLink RX1 9 "OutcastBench$LastAccesses" "lines" "[I", Cond.fieldLink RX1 19 "OutcastBench$LastAccesses" "next" "I", Cond.fieldLink RX1 15 "OutcastBench$LastAccesses" "writes" "[Z", Cond.fieldLink RX1 23 "OutcastBench$LastAccesses" "count" "I", Cond.methodLink RX2 65 yJ9_floorMod_7cf53, Cond.static yJ9_floorMod_7cf53, Cond.initialized RJ9, Cond.code yJ9_floorMod_7cf53 cJ9_floorMod_7cf53 3 (some .int)]
def wsX2_walk : List Cond := .code yX2_walk cX2_walk 7 (some .int) :: ((wsX2_walk_r1 ++ (wsX2_walk_r2 ++ wsX2_walk_r3)) ++ wsX20 ++ wsX00 ++ wsX10 ++ (vx_atS RX2 58 "java/lang/IllegalArgumentException" ["java/lang/RuntimeException", "java/lang/Exception"]).filter goodWord ++ (vx_atS RX2 111 "java/lang/IndexOutOfBoundsException" ["java/lang/RuntimeException", "java/lang/Exception"]).filter goodWord)
def wsX2_bringHome : List Cond := .code yX2_bringHome cX2_bringHome 1 (some .int) :: ([.fieldLink RX2 21 "OutcastBench" "actual" "LOutcastBench$CacheAndBench;", .methodLink RX2 71 yX0_bringAllHome, .instanceMethod yX0_bringAllHome, .selects RX0 yX0_bringAllHome yX0_bringAllHome, .initialized RX0, .code yX0_bringAllHome cX0_bringAllHome 3 (some .int), .fieldLink RX0 71 "OutcastBench$CacheAndBench" "homecomingCount" "I", .fieldLink RX0 26 "OutcastBench$CacheAndBench" "setCount" "I", .fieldLink RX0 9 "OutcastBench$CacheAndBench" "lines" "[I", .fieldLink RX0 39 "OutcastBench$CacheAndBench" "seated" "I", .fieldLink RX0 15 "OutcastBench$CacheAndBench" "bench" "[I", .methodLink RX0 68 yX0_bringHomeIfDirty, .instanceMethod yX0_bringHomeIfDirty, .selects RX0 yX0_bringHomeIfDirty yX0_bringHomeIfDirty, .code yX0_bringHomeIfDirty cX0_bringHomeIfDirty 2 none, .fieldLink RX0 18 "OutcastBench$CacheAndBench" "dirtyLines" "[Z", .fieldLink RX0 49 "OutcastBench$CacheAndBench" "costSoFar" "I"] ++ wsX20 ++ wsX00)
def wsX2_requireSize : List Cond := .code yX2_requireSize cX2_requireSize 3 none :: ([.classLink RX2 54 "java/lang/IllegalArgumentException", .initialized "java/lang/IllegalArgumentException"] ++ (vx_atS RX2 58 "java/lang/IllegalArgumentException" ["java/lang/RuntimeException", "java/lang/Exception"]).filter goodWord)
def wsX2_build_r1 : List Cond := [Cond.fieldLink RX2 21 "OutcastBench" "actual" "LOutcastBench$CacheAndBench;", Cond.methodLink RX2 75 yX2_requireSize, Cond.static yX2_requireSize, Cond.initialized RX2, Cond.code yX2_requireSize cX2_requireSize 3 none, Cond.classLink RX2 54 "java/lang/IllegalArgumentException", Cond.initialized "java/lang/IllegalArgumentException", Cond.methodLink RX2 78 yX0_countLines, Cond.instanceMethod yX0_countLines, Cond.selects RX0 yX0_countLines yX0_countLines, Cond.initialized RX0, Cond.code yX0_countLines cX0_countLines 3 (some .int), Cond.fieldLink RX0 39 "OutcastBench$CacheAndBench" "seated" "I", Cond.fieldLink RX0 26 "OutcastBench$CacheAndBench" "setCount" "I", Cond.fieldLink RX0 9 "OutcastBench$CacheAndBench" "lines" "[I", Cond.methodLink RX2 71 yX0_bringAllHome, Cond.instanceMethod yX0_bringAllHome, Cond.selects RX0 yX0_bringAllHome yX0_bringAllHome, Cond.code yX0_bringAllHome cX0_bringAllHome 3 (some .int), Cond.fieldLink RX0 71 "OutcastBench$CacheAndBench" "homecomingCount" "I", Cond.fieldLink RX0 15 "OutcastBench$CacheAndBench" "bench" "[I", Cond.methodLink RX0 68 yX0_bringHomeIfDirty, Cond.instanceMethod yX0_bringHomeIfDirty, Cond.selects RX0 yX0_bringHomeIfDirty yX0_bringHomeIfDirty]
def wsX2_build_r2 : List Cond := [Cond.code yX0_bringHomeIfDirty cX0_bringHomeIfDirty 2 none, Cond.fieldLink RX0 18 "OutcastBench$CacheAndBench" "dirtyLines" "[Z", Cond.fieldLink RX0 49 "OutcastBench$CacheAndBench" "costSoFar" "I", Cond.methodLink RX2 81 yX0_startEmpty, Cond.instanceMethod yX0_startEmpty, Cond.selects RX0 yX0_startEmpty yX0_startEmpty, Cond.code yX0_startEmpty cX0_startEmpty 4 none, Cond.fieldLink RX0 30 "OutcastBench$CacheAndBench" "placeCount" "I", Cond.methodLink RX0 33 yJ7_fill_53178, Cond.static yJ7_fill_53178, Cond.initialized RJ7, Cond.code yJ7_fill_53178 cJ7_fill_53178 4 none]
def wsX2_build : List Cond := .code yX2_build cX2_build 4 (some .int) :: ((wsX2_build_r1 ++ wsX2_build_r2) ++ wsX20 ++ wsX00 ++ (vx_atS RX2 58 "java/lang/IllegalArgumentException" ["java/lang/RuntimeException", "java/lang/Exception"]).filter goodWord)
def wsX2_requireSet : List Cond := .code yX2_requireSet cX2_requireSet 2 none :: ([.classLink RX2 107 "java/lang/IndexOutOfBoundsException", .initialized "java/lang/IndexOutOfBoundsException", .fieldLink RX2 21 "OutcastBench" "actual" "LOutcastBench$CacheAndBench;", .fieldLink RX2 98 "OutcastBench$CacheAndBench" "setCount" "I"] ++ wsX20 ++ wsX00 ++ (vx_atS RX2 111 "java/lang/IndexOutOfBoundsException" ["java/lang/RuntimeException", "java/lang/Exception"]).filter goodWord)
def wsX2_cast_r1 : List Cond := [Cond.classLink RX2 90 "java/lang/IllegalStateException", Cond.initialized "java/lang/IllegalStateException", Cond.fieldLink RX2 21 "OutcastBench" "actual" "LOutcastBench$CacheAndBench;", Cond.fieldLink RX2 87 "OutcastBench$CacheAndBench" "lines" "[I", Cond.methodLink RX2 84 yX2_requireSet, Cond.instanceMethod yX2_requireSet, Cond.selects RX2 yX2_requireSet yX2_requireSet, Cond.initialized RX2, Cond.code yX2_requireSet cX2_requireSet 2 none, Cond.classLink RX2 107 "java/lang/IndexOutOfBoundsException", Cond.initialized "java/lang/IndexOutOfBoundsException", Cond.fieldLink RX2 98 "OutcastBench$CacheAndBench" "setCount" "I", Cond.methodLink RX2 95 yX0_throwOut, Cond.instanceMethod yX0_throwOut, Cond.selects RX0 yX0_throwOut yX0_throwOut, Cond.initialized RX0, Cond.code yX0_throwOut cX0_throwOut 3 none, Cond.fieldLink RX0 9 "OutcastBench$CacheAndBench" "lines" "[I", Cond.fieldLink RX0 30 "OutcastBench$CacheAndBench" "placeCount" "I", Cond.fieldLink RX0 39 "OutcastBench$CacheAndBench" "seated" "I", Cond.fieldLink RX0 15 "OutcastBench$CacheAndBench" "bench" "[I", Cond.methodLink RX0 68 yX0_bringHomeIfDirty, Cond.instanceMethod yX0_bringHomeIfDirty, Cond.selects RX0 yX0_bringHomeIfDirty yX0_bringHomeIfDirty]
def wsX2_cast_r2 : List Cond := [Cond.code yX0_bringHomeIfDirty cX0_bringHomeIfDirty 2 none, Cond.fieldLink RX0 18 "OutcastBench$CacheAndBench" "dirtyLines" "[Z", Cond.fieldLink RX0 71 "OutcastBench$CacheAndBench" "homecomingCount" "I", Cond.fieldLink RX0 49 "OutcastBench$CacheAndBench" "costSoFar" "I", Cond.methodLink RX0 61 yX0_leaveBench, Cond.instanceMethod yX0_leaveBench, Cond.selects RX0 yX0_leaveBench yX0_leaveBench, Cond.code yX0_leaveBench cX0_leaveBench 3 none]
def wsX2_cast : List Cond := .code yX2_cast cX2_cast 3 (some .int) :: ((wsX2_cast_r1 ++ wsX2_cast_r2) ++ wsX20 ++ wsX00 ++ (vx_atS RX2 94 "java/lang/IllegalStateException" ["java/lang/RuntimeException", "java/lang/Exception"]).filter goodWord ++ (vx_atS RX2 111 "java/lang/IndexOutOfBoundsException" ["java/lang/RuntimeException", "java/lang/Exception"]).filter goodWord)
def wsX2_sets : List Cond := .code yX2_sets cX2_sets 1 (some .int) :: ([.fieldLink RX2 21 "OutcastBench" "actual" "LOutcastBench$CacheAndBench;", .fieldLink RX2 98 "OutcastBench$CacheAndBench" "setCount" "I"] ++ wsX20 ++ wsX00)
def wsX2_places : List Cond := .code yX2_places cX2_places 1 (some .int) :: ([.fieldLink RX2 21 "OutcastBench" "actual" "LOutcastBench$CacheAndBench;", .fieldLink RX2 101 "OutcastBench$CacheAndBench" "placeCount" "I"] ++ wsX20 ++ wsX00)
def wsX2_lineIn : List Cond := .code yX2_lineIn cX2_lineIn 2 (some .int) :: ([.fieldLink RX2 21 "OutcastBench" "actual" "LOutcastBench$CacheAndBench;", .fieldLink RX2 87 "OutcastBench$CacheAndBench" "lines" "[I", .methodLink RX2 84 yX2_requireSet, .instanceMethod yX2_requireSet, .selects RX2 yX2_requireSet yX2_requireSet, .initialized RX2, .code yX2_requireSet cX2_requireSet 2 none, .classLink RX2 107 "java/lang/IndexOutOfBoundsException", .initialized "java/lang/IndexOutOfBoundsException", .fieldLink RX2 98 "OutcastBench$CacheAndBench" "setCount" "I"] ++ wsX20 ++ wsX00 ++ (vx_atS RX2 111 "java/lang/IndexOutOfBoundsException" ["java/lang/RuntimeException", "java/lang/Exception"]).filter goodWord)
def wsX2_sitting : List Cond := .code yX2_sitting cX2_sitting 1 (some .int) :: ([.fieldLink RX2 21 "OutcastBench" "actual" "LOutcastBench$CacheAndBench;", .fieldLink RX2 104 "OutcastBench$CacheAndBench" "seated" "I"] ++ wsX20 ++ wsX00)
def wsX2_lineOnBench : List Cond := .code yX2_lineOnBench cX2_lineOnBench 2 (some .int) :: ([.classLink RX2 107 "java/lang/IndexOutOfBoundsException", .initialized "java/lang/IndexOutOfBoundsException", .fieldLink RX2 21 "OutcastBench" "actual" "LOutcastBench$CacheAndBench;", .fieldLink RX2 104 "OutcastBench$CacheAndBench" "seated" "I", .fieldLink RX2 112 "OutcastBench$CacheAndBench" "bench" "[I"] ++ wsX20 ++ wsX00 ++ (vx_atS RX2 111 "java/lang/IndexOutOfBoundsException" ["java/lang/RuntimeException", "java/lang/Exception"]).filter goodWord)
def wsX2_requireLine : List Cond := .code yX2_requireLine cX2_requireLine 1 none :: ([.classLink RX2 107 "java/lang/IndexOutOfBoundsException", .initialized "java/lang/IndexOutOfBoundsException"] ++ (vx_atS RX2 111 "java/lang/IndexOutOfBoundsException" ["java/lang/RuntimeException", "java/lang/Exception"]).filter goodWord)
def wsX2_placeOf : List Cond := .code yX2_placeOf cX2_placeOf 2 (some .int) :: ([.fieldLink RX2 21 "OutcastBench" "actual" "LOutcastBench$CacheAndBench;", .methodLink RX2 115 yX2_requireLine, .static yX2_requireLine, .initialized RX2, .code yX2_requireLine cX2_requireLine 1 none, .classLink RX2 107 "java/lang/IndexOutOfBoundsException", .initialized "java/lang/IndexOutOfBoundsException", .methodLink RX2 118 yX0_whereIs, .instanceMethod yX0_whereIs, .selects RX0 yX0_whereIs yX0_whereIs, .initialized RX0, .code yX0_whereIs cX0_whereIs 2 (some .int), .fieldLink RX0 9 "OutcastBench$CacheAndBench" "lines" "[I", .methodLink RX0 42 yX0_setOf, .instanceMethod yX0_setOf, .selects RX0 yX0_setOf yX0_setOf, .code yX0_setOf cX0_setOf 2 (some .int), .fieldLink RX0 26 "OutcastBench$CacheAndBench" "setCount" "I", .methodLink RX0 52 yX0_seatOf, .instanceMethod yX0_seatOf, .selects RX0 yX0_seatOf yX0_seatOf, .code yX0_seatOf cX0_seatOf 3 (some .int), .fieldLink RX0 39 "OutcastBench$CacheAndBench" "seated" "I", .fieldLink RX0 15 "OutcastBench$CacheAndBench" "bench" "[I"] ++ wsX20 ++ wsX00 ++ (vx_atS RX2 111 "java/lang/IndexOutOfBoundsException" ["java/lang/RuntimeException", "java/lang/Exception"]).filter goodWord)
def wsX2_isDirty : List Cond := .code yX2_isDirty cX2_isDirty 2 (some .boolean) :: ([.fieldLink RX2 21 "OutcastBench" "actual" "LOutcastBench$CacheAndBench;", .fieldLink RX2 47 "OutcastBench$CacheAndBench" "dirtyLines" "[Z", .methodLink RX2 115 yX2_requireLine, .static yX2_requireLine, .initialized RX2, .code yX2_requireLine cX2_requireLine 1 none, .classLink RX2 107 "java/lang/IndexOutOfBoundsException", .initialized "java/lang/IndexOutOfBoundsException"] ++ wsX20 ++ wsX00 ++ (vx_atS RX2 111 "java/lang/IndexOutOfBoundsException" ["java/lang/RuntimeException", "java/lang/Exception"]).filter goodWord)
def wsX2_dirty : List Cond := .code yX2_dirty cX2_dirty 1 (some .int) :: ([.fieldLink RX2 21 "OutcastBench" "actual" "LOutcastBench$CacheAndBench;", .methodLink RX2 121 yX0_countDirty, .instanceMethod yX0_countDirty, .selects RX0 yX0_countDirty yX0_countDirty, .initialized RX0, .code yX0_countDirty cX0_countDirty 3 (some .int), .fieldLink RX0 18 "OutcastBench$CacheAndBench" "dirtyLines" "[Z"] ++ wsX20 ++ wsX00)
def wsX2_atHome : List Cond := .code yX2_atHome cX2_atHome 2 (some .int) :: ([.fieldLink RX2 21 "OutcastBench" "actual" "LOutcastBench$CacheAndBench;", .fieldLink RX2 47 "OutcastBench$CacheAndBench" "dirtyLines" "[Z", .fieldLink RX2 13 "OutcastBench" "home" "[I", .fieldLink RX2 9 "OutcastBench" "written" "[I", .methodLink RX2 35 yX2_requireWord, .static yX2_requireWord, .initialized RX2, .code yX2_requireWord cX2_requireWord 1 none, .classLink RX2 107 "java/lang/IndexOutOfBoundsException", .initialized "java/lang/IndexOutOfBoundsException", .methodLink RX2 39 yX2_lineOf, .static yX2_lineOf, .code yX2_lineOf cX2_lineOf 1 (some .int)] ++ wsX20 ++ wsX00 ++ (vx_atS RX2 111 "java/lang/IndexOutOfBoundsException" ["java/lang/RuntimeException", "java/lang/Exception"]).filter goodWord)
def wsX2_peek : List Cond := .code yX2_peek cX2_peek 2 (some .int) :: ([.fieldLink RX2 9 "OutcastBench" "written" "[I", .methodLink RX2 35 yX2_requireWord, .static yX2_requireWord, .initialized RX2, .code yX2_requireWord cX2_requireWord 1 none, .classLink RX2 107 "java/lang/IndexOutOfBoundsException", .initialized "java/lang/IndexOutOfBoundsException"] ++ wsX20 ++ (vx_atS RX2 111 "java/lang/IndexOutOfBoundsException" ["java/lang/RuntimeException", "java/lang/Exception"]).filter goodWord)
def wsX2_hits : List Cond := .code yX2_hits cX2_hits 1 (some .int) :: ([.fieldLink RX2 21 "OutcastBench" "actual" "LOutcastBench$CacheAndBench;", .fieldLink RX2 124 "OutcastBench$CacheAndBench" "hitCount" "I"] ++ wsX20 ++ wsX00)
def wsX2_swaps : List Cond := .code yX2_swaps cX2_swaps 1 (some .int) :: ([.fieldLink RX2 21 "OutcastBench" "actual" "LOutcastBench$CacheAndBench;", .fieldLink RX2 127 "OutcastBench$CacheAndBench" "swapCount" "I"] ++ wsX20 ++ wsX00)
def wsX2_misses : List Cond := .code yX2_misses cX2_misses 1 (some .int) :: ([.fieldLink RX2 21 "OutcastBench" "actual" "LOutcastBench$CacheAndBench;", .fieldLink RX2 130 "OutcastBench$CacheAndBench" "missCount" "I"] ++ wsX20 ++ wsX00)
def wsX2_homecomings : List Cond := .code yX2_homecomings cX2_homecomings 1 (some .int) :: ([.fieldLink RX2 21 "OutcastBench" "actual" "LOutcastBench$CacheAndBench;", .fieldLink RX2 133 "OutcastBench$CacheAndBench" "homecomingCount" "I"] ++ wsX20 ++ wsX00)
def wsX2_cost : List Cond := .code yX2_cost cX2_cost 1 (some .int) :: ([.fieldLink RX2 21 "OutcastBench" "actual" "LOutcastBench$CacheAndBench;", .fieldLink RX2 61 "OutcastBench$CacheAndBench" "costSoFar" "I"] ++ wsX20 ++ wsX00)
def wsX2_costOfTrial_r1 : List Cond := [Cond.fieldLink RX2 25 "OutcastBench" "trial" "LOutcastBench$CacheAndBench;", Cond.fieldLink RX2 61 "OutcastBench$CacheAndBench" "costSoFar" "I", Cond.fieldLink RX2 31 "OutcastBench" "last" "LOutcastBench$LastAccesses;", Cond.fieldLink RX2 151 "OutcastBench$LastAccesses" "count" "I", Cond.fieldLink RX2 157 "OutcastBench$LastAccesses" "lines" "[I", Cond.fieldLink RX2 158 "OutcastBench$LastAccesses" "writes" "[Z", Cond.methodLink RX2 81 yX0_startEmpty, Cond.instanceMethod yX0_startEmpty, Cond.selects RX0 yX0_startEmpty yX0_startEmpty, Cond.initialized RX0, Cond.code yX0_startEmpty cX0_startEmpty 4 none, Cond.fieldLink RX0 26 "OutcastBench$CacheAndBench" "setCount" "I", Cond.fieldLink RX0 30 "OutcastBench$CacheAndBench" "placeCount" "I", Cond.fieldLink RX0 9 "OutcastBench$CacheAndBench" "lines" "[I", Cond.fieldLink RX0 39 "OutcastBench$CacheAndBench" "seated" "I", Cond.fieldLink RX0 18 "OutcastBench$CacheAndBench" "dirtyLines" "[Z", Cond.methodLink RX0 33 yJ7_fill_53178, Cond.static yJ7_fill_53178, Cond.initialized RJ7, Cond.code yJ7_fill_53178 cJ7_fill_53178 4 none, Cond.methodLink RX2 154 yX1_slotOf, Cond.instanceMethod yX1_slotOf, Cond.selects RX1 yX1_slotOf yX1_slotOf, Cond.initialized RX1]
def wsX2_costOfTrial_r2 : List Cond := [Cond.code yX1_slotOf cX1_slotOf 3 (some .int), Cond.fieldLink RX1 23 "OutcastBench$LastAccesses" "count" "I", Cond.fieldLink RX1 19 "OutcastBench$LastAccesses" "next" "I", Cond.methodLink RX2 139 yX0_access, Cond.instanceMethod yX0_access, Cond.selects RX0 yX0_access yX0_access, Cond.code yX0_access cX0_access 5 none, Cond.fieldLink RX0 46 "OutcastBench$CacheAndBench" "hitCount" "I", Cond.fieldLink RX0 49 "OutcastBench$CacheAndBench" "costSoFar" "I", Cond.fieldLink RX0 55 "OutcastBench$CacheAndBench" "missCount" "I", Cond.fieldLink RX0 58 "OutcastBench$CacheAndBench" "swapCount" "I", Cond.methodLink RX0 42 yX0_setOf, Cond.instanceMethod yX0_setOf, Cond.selects RX0 yX0_setOf yX0_setOf, Cond.code yX0_setOf cX0_setOf 2 (some .int), Cond.methodLink RX0 52 yX0_seatOf, Cond.instanceMethod yX0_seatOf, Cond.selects RX0 yX0_seatOf yX0_seatOf, Cond.code yX0_seatOf cX0_seatOf 3 (some .int), Cond.fieldLink RX0 15 "OutcastBench$CacheAndBench" "bench" "[I", Cond.methodLink RX0 61 yX0_leaveBench, Cond.instanceMethod yX0_leaveBench, Cond.selects RX0 yX0_leaveBench yX0_leaveBench, Cond.code yX0_leaveBench cX0_leaveBench 3 none]
def wsX2_costOfTrial_r3 : List Cond := [Cond.methodLink RX0 65 yX0_throwOut, Cond.instanceMethod yX0_throwOut, Cond.selects RX0 yX0_throwOut yX0_throwOut, Cond.code yX0_throwOut cX0_throwOut 3 none, Cond.methodLink RX0 68 yX0_bringHomeIfDirty, Cond.instanceMethod yX0_bringHomeIfDirty, Cond.selects RX0 yX0_bringHomeIfDirty yX0_bringHomeIfDirty, Cond.code yX0_bringHomeIfDirty cX0_bringHomeIfDirty 2 none, Cond.fieldLink RX0 71 "OutcastBench$CacheAndBench" "homecomingCount" "I"]
def wsX2_costOfTrial : List Cond := .code yX2_costOfTrial cX2_costOfTrial 6 (some .int) :: ((wsX2_costOfTrial_r1 ++ (wsX2_costOfTrial_r2 ++ wsX2_costOfTrial_r3)) ++ wsX20 ++ wsX00 ++ wsX10)
def wsX2_wouldCost_r1 : List Cond := [Cond.methodLink RX2 75 yX2_requireSize, Cond.static yX2_requireSize, Cond.initialized RX2, Cond.code yX2_requireSize cX2_requireSize 3 none, Cond.classLink RX2 54 "java/lang/IllegalArgumentException", Cond.initialized "java/lang/IllegalArgumentException", Cond.methodLink RX2 136 yX2_costOfTrial, Cond.instanceMethod yX2_costOfTrial, Cond.selects RX2 yX2_costOfTrial yX2_costOfTrial, Cond.code yX2_costOfTrial cX2_costOfTrial 6 (some .int), Cond.fieldLink RX2 25 "OutcastBench" "trial" "LOutcastBench$CacheAndBench;", Cond.fieldLink RX2 61 "OutcastBench$CacheAndBench" "costSoFar" "I", Cond.fieldLink RX2 31 "OutcastBench" "last" "LOutcastBench$LastAccesses;", Cond.fieldLink RX2 151 "OutcastBench$LastAccesses" "count" "I", Cond.fieldLink RX2 157 "OutcastBench$LastAccesses" "lines" "[I", Cond.fieldLink RX2 158 "OutcastBench$LastAccesses" "writes" "[Z", Cond.methodLink RX2 81 yX0_startEmpty, Cond.instanceMethod yX0_startEmpty, Cond.selects RX0 yX0_startEmpty yX0_startEmpty, Cond.initialized RX0, Cond.code yX0_startEmpty cX0_startEmpty 4 none, Cond.fieldLink RX0 26 "OutcastBench$CacheAndBench" "setCount" "I", Cond.fieldLink RX0 30 "OutcastBench$CacheAndBench" "placeCount" "I", Cond.fieldLink RX0 9 "OutcastBench$CacheAndBench" "lines" "[I"]
def wsX2_wouldCost_r2 : List Cond := [Cond.fieldLink RX0 39 "OutcastBench$CacheAndBench" "seated" "I", Cond.fieldLink RX0 18 "OutcastBench$CacheAndBench" "dirtyLines" "[Z", Cond.methodLink RX0 33 yJ7_fill_53178, Cond.static yJ7_fill_53178, Cond.initialized RJ7, Cond.code yJ7_fill_53178 cJ7_fill_53178 4 none, Cond.methodLink RX2 154 yX1_slotOf, Cond.instanceMethod yX1_slotOf, Cond.selects RX1 yX1_slotOf yX1_slotOf, Cond.initialized RX1, Cond.code yX1_slotOf cX1_slotOf 3 (some .int), Cond.fieldLink RX1 23 "OutcastBench$LastAccesses" "count" "I", Cond.fieldLink RX1 19 "OutcastBench$LastAccesses" "next" "I", Cond.methodLink RX2 139 yX0_access, Cond.instanceMethod yX0_access, Cond.selects RX0 yX0_access yX0_access, Cond.code yX0_access cX0_access 5 none, Cond.fieldLink RX0 46 "OutcastBench$CacheAndBench" "hitCount" "I", Cond.fieldLink RX0 49 "OutcastBench$CacheAndBench" "costSoFar" "I", Cond.fieldLink RX0 55 "OutcastBench$CacheAndBench" "missCount" "I", Cond.fieldLink RX0 58 "OutcastBench$CacheAndBench" "swapCount" "I", Cond.methodLink RX0 42 yX0_setOf, Cond.instanceMethod yX0_setOf, Cond.selects RX0 yX0_setOf yX0_setOf]
def wsX2_wouldCost_r3 : List Cond := [Cond.code yX0_setOf cX0_setOf 2 (some .int), Cond.methodLink RX0 52 yX0_seatOf, Cond.instanceMethod yX0_seatOf, Cond.selects RX0 yX0_seatOf yX0_seatOf, Cond.code yX0_seatOf cX0_seatOf 3 (some .int), Cond.fieldLink RX0 15 "OutcastBench$CacheAndBench" "bench" "[I", Cond.methodLink RX0 61 yX0_leaveBench, Cond.instanceMethod yX0_leaveBench, Cond.selects RX0 yX0_leaveBench yX0_leaveBench, Cond.code yX0_leaveBench cX0_leaveBench 3 none, Cond.methodLink RX0 65 yX0_throwOut, Cond.instanceMethod yX0_throwOut, Cond.selects RX0 yX0_throwOut yX0_throwOut, Cond.code yX0_throwOut cX0_throwOut 3 none, Cond.methodLink RX0 68 yX0_bringHomeIfDirty, Cond.instanceMethod yX0_bringHomeIfDirty, Cond.selects RX0 yX0_bringHomeIfDirty yX0_bringHomeIfDirty, Cond.code yX0_bringHomeIfDirty cX0_bringHomeIfDirty 2 none, Cond.fieldLink RX0 71 "OutcastBench$CacheAndBench" "homecomingCount" "I"]
def wsX2_wouldCost : List Cond := .code yX2_wouldCost cX2_wouldCost 3 (some .int) :: ((wsX2_wouldCost_r1 ++ (wsX2_wouldCost_r2 ++ wsX2_wouldCost_r3)) ++ wsX20 ++ wsX00 ++ wsX10 ++ (vx_atS RX2 58 "java/lang/IllegalArgumentException" ["java/lang/RuntimeException", "java/lang/Exception"]).filter goodWord)
def wsX2_bestPlaces_r1 : List Cond := [Cond.fieldLink RX2 21 "OutcastBench" "actual" "LOutcastBench$CacheAndBench;", Cond.fieldLink RX2 98 "OutcastBench$CacheAndBench" "setCount" "I", Cond.methodLink RX2 136 yX2_costOfTrial, Cond.instanceMethod yX2_costOfTrial, Cond.selects RX2 yX2_costOfTrial yX2_costOfTrial, Cond.initialized RX2, Cond.code yX2_costOfTrial cX2_costOfTrial 6 (some .int), Cond.fieldLink RX2 25 "OutcastBench" "trial" "LOutcastBench$CacheAndBench;", Cond.fieldLink RX2 61 "OutcastBench$CacheAndBench" "costSoFar" "I", Cond.fieldLink RX2 31 "OutcastBench" "last" "LOutcastBench$LastAccesses;", Cond.fieldLink RX2 151 "OutcastBench$LastAccesses" "count" "I", Cond.fieldLink RX2 157 "OutcastBench$LastAccesses" "lines" "[I", Cond.fieldLink RX2 158 "OutcastBench$LastAccesses" "writes" "[Z", Cond.methodLink RX2 81 yX0_startEmpty, Cond.instanceMethod yX0_startEmpty, Cond.selects RX0 yX0_startEmpty yX0_startEmpty, Cond.initialized RX0, Cond.code yX0_startEmpty cX0_startEmpty 4 none, Cond.fieldLink RX0 26 "OutcastBench$CacheAndBench" "setCount" "I", Cond.fieldLink RX0 30 "OutcastBench$CacheAndBench" "placeCount" "I", Cond.fieldLink RX0 9 "OutcastBench$CacheAndBench" "lines" "[I", Cond.fieldLink RX0 39 "OutcastBench$CacheAndBench" "seated" "I", Cond.fieldLink RX0 18 "OutcastBench$CacheAndBench" "dirtyLines" "[Z", Cond.methodLink RX0 33 yJ7_fill_53178]
def wsX2_bestPlaces_r2 : List Cond := [Cond.static yJ7_fill_53178, Cond.initialized RJ7, Cond.code yJ7_fill_53178 cJ7_fill_53178 4 none, Cond.methodLink RX2 154 yX1_slotOf, Cond.instanceMethod yX1_slotOf, Cond.selects RX1 yX1_slotOf yX1_slotOf, Cond.initialized RX1, Cond.code yX1_slotOf cX1_slotOf 3 (some .int), Cond.fieldLink RX1 23 "OutcastBench$LastAccesses" "count" "I", Cond.fieldLink RX1 19 "OutcastBench$LastAccesses" "next" "I", Cond.methodLink RX2 139 yX0_access, Cond.instanceMethod yX0_access, Cond.selects RX0 yX0_access yX0_access, Cond.code yX0_access cX0_access 5 none, Cond.fieldLink RX0 46 "OutcastBench$CacheAndBench" "hitCount" "I", Cond.fieldLink RX0 49 "OutcastBench$CacheAndBench" "costSoFar" "I", Cond.fieldLink RX0 55 "OutcastBench$CacheAndBench" "missCount" "I", Cond.fieldLink RX0 58 "OutcastBench$CacheAndBench" "swapCount" "I", Cond.methodLink RX0 42 yX0_setOf, Cond.instanceMethod yX0_setOf, Cond.selects RX0 yX0_setOf yX0_setOf, Cond.code yX0_setOf cX0_setOf 2 (some .int), Cond.methodLink RX0 52 yX0_seatOf, Cond.instanceMethod yX0_seatOf]
def wsX2_bestPlaces_r3 : List Cond := [Cond.selects RX0 yX0_seatOf yX0_seatOf, Cond.code yX0_seatOf cX0_seatOf 3 (some .int), Cond.fieldLink RX0 15 "OutcastBench$CacheAndBench" "bench" "[I", Cond.methodLink RX0 61 yX0_leaveBench, Cond.instanceMethod yX0_leaveBench, Cond.selects RX0 yX0_leaveBench yX0_leaveBench, Cond.code yX0_leaveBench cX0_leaveBench 3 none, Cond.methodLink RX0 65 yX0_throwOut, Cond.instanceMethod yX0_throwOut, Cond.selects RX0 yX0_throwOut yX0_throwOut, Cond.code yX0_throwOut cX0_throwOut 3 none, Cond.methodLink RX0 68 yX0_bringHomeIfDirty, Cond.instanceMethod yX0_bringHomeIfDirty, Cond.selects RX0 yX0_bringHomeIfDirty yX0_bringHomeIfDirty, Cond.code yX0_bringHomeIfDirty cX0_bringHomeIfDirty 2 none, Cond.fieldLink RX0 71 "OutcastBench$CacheAndBench" "homecomingCount" "I"]
def wsX2_bestPlaces : List Cond := .code yX2_bestPlaces cX2_bestPlaces 5 (some .int) :: ((wsX2_bestPlaces_r1 ++ (wsX2_bestPlaces_r2 ++ wsX2_bestPlaces_r3)) ++ wsX20 ++ wsX00 ++ wsX10)
def wsL_drawn : List Cond := .code yL_drawn cL_drawn 4 (some .int) :: ([.constant RL 7 (40009)])
def wsL_isInOrder_r1 : List Cond := [Cond.methodLink RL 8 yX2_cost, Cond.instanceMethod yX2_cost, Cond.selects RX2 yX2_cost yX2_cost, Cond.initialized RX2, Cond.code yX2_cost cX2_cost 1 (some .int), Cond.fieldLink RX2 21 "OutcastBench" "actual" "LOutcastBench$CacheAndBench;", Cond.fieldLink RX2 61 "OutcastBench$CacheAndBench" "costSoFar" "I", Cond.methodLink RL 14 yX2_hits, Cond.instanceMethod yX2_hits, Cond.selects RX2 yX2_hits yX2_hits, Cond.code yX2_hits cX2_hits 1 (some .int), Cond.fieldLink RX2 124 "OutcastBench$CacheAndBench" "hitCount" "I", Cond.methodLink RL 17 yX2_swaps, Cond.instanceMethod yX2_swaps, Cond.selects RX2 yX2_swaps yX2_swaps, Cond.code yX2_swaps cX2_swaps 1 (some .int), Cond.fieldLink RX2 127 "OutcastBench$CacheAndBench" "swapCount" "I", Cond.methodLink RL 20 yX2_misses, Cond.instanceMethod yX2_misses, Cond.selects RX2 yX2_misses yX2_misses, Cond.code yX2_misses cX2_misses 1 (some .int), Cond.fieldLink RX2 130 "OutcastBench$CacheAndBench" "missCount" "I", Cond.methodLink RL 23 yX2_homecomings, Cond.instanceMethod yX2_homecomings]
def wsL_isInOrder_r2 : List Cond := [Cond.selects RX2 yX2_homecomings yX2_homecomings, Cond.code yX2_homecomings cX2_homecomings 1 (some .int), Cond.fieldLink RX2 133 "OutcastBench$CacheAndBench" "homecomingCount" "I", Cond.methodLink RL 26 yX2_sitting, Cond.instanceMethod yX2_sitting, Cond.selects RX2 yX2_sitting yX2_sitting, Cond.code yX2_sitting cX2_sitting 1 (some .int), Cond.fieldLink RX2 104 "OutcastBench$CacheAndBench" "seated" "I", Cond.methodLink RL 29 yX2_places, Cond.instanceMethod yX2_places, Cond.selects RX2 yX2_places yX2_places, Cond.code yX2_places cX2_places 1 (some .int), Cond.fieldLink RX2 101 "OutcastBench$CacheAndBench" "placeCount" "I", Cond.methodLink RL 32 yX2_sets, Cond.instanceMethod yX2_sets, Cond.selects RX2 yX2_sets yX2_sets, Cond.code yX2_sets cX2_sets 1 (some .int), Cond.fieldLink RX2 98 "OutcastBench$CacheAndBench" "setCount" "I", Cond.methodLink RL 35 yX2_lineIn, Cond.instanceMethod yX2_lineIn, Cond.selects RX2 yX2_lineIn yX2_lineIn, Cond.code yX2_lineIn cX2_lineIn 2 (some .int), Cond.fieldLink RX2 87 "OutcastBench$CacheAndBench" "lines" "[I", Cond.methodLink RX2 84 yX2_requireSet]
def wsL_isInOrder_r3 : List Cond := [Cond.instanceMethod yX2_requireSet, Cond.selects RX2 yX2_requireSet yX2_requireSet, Cond.code yX2_requireSet cX2_requireSet 2 none, Cond.classLink RX2 107 "java/lang/IndexOutOfBoundsException", Cond.initialized "java/lang/IndexOutOfBoundsException", Cond.methodLink RL 39 yX2_placeOf, Cond.instanceMethod yX2_placeOf, Cond.selects RX2 yX2_placeOf yX2_placeOf, Cond.code yX2_placeOf cX2_placeOf 2 (some .int), Cond.methodLink RX2 115 yX2_requireLine, Cond.static yX2_requireLine, Cond.code yX2_requireLine cX2_requireLine 1 none, Cond.methodLink RX2 118 yX0_whereIs, Cond.instanceMethod yX0_whereIs, Cond.selects RX0 yX0_whereIs yX0_whereIs, Cond.initialized RX0, Cond.code yX0_whereIs cX0_whereIs 2 (some .int), Cond.fieldLink RX0 9 "OutcastBench$CacheAndBench" "lines" "[I", Cond.methodLink RX0 42 yX0_setOf, Cond.instanceMethod yX0_setOf, Cond.selects RX0 yX0_setOf yX0_setOf, Cond.code yX0_setOf cX0_setOf 2 (some .int), Cond.fieldLink RX0 26 "OutcastBench$CacheAndBench" "setCount" "I", Cond.methodLink RX0 52 yX0_seatOf]
def wsL_isInOrder_r4 : List Cond := [Cond.instanceMethod yX0_seatOf, Cond.selects RX0 yX0_seatOf yX0_seatOf, Cond.code yX0_seatOf cX0_seatOf 3 (some .int), Cond.fieldLink RX0 39 "OutcastBench$CacheAndBench" "seated" "I", Cond.fieldLink RX0 15 "OutcastBench$CacheAndBench" "bench" "[I", Cond.methodLink RL 42 yX2_lineOnBench, Cond.instanceMethod yX2_lineOnBench, Cond.selects RX2 yX2_lineOnBench yX2_lineOnBench, Cond.code yX2_lineOnBench cX2_lineOnBench 2 (some .int), Cond.fieldLink RX2 112 "OutcastBench$CacheAndBench" "bench" "[I", Cond.methodLink RL 45 yX2_isDirty, Cond.instanceMethod yX2_isDirty, Cond.selects RX2 yX2_isDirty yX2_isDirty, Cond.code yX2_isDirty cX2_isDirty 2 (some .boolean), Cond.fieldLink RX2 47 "OutcastBench$CacheAndBench" "dirtyLines" "[Z", Cond.methodLink RL 49 yX2_atHome, Cond.instanceMethod yX2_atHome, Cond.selects RX2 yX2_atHome yX2_atHome, Cond.code yX2_atHome cX2_atHome 2 (some .int), Cond.fieldLink RX2 13 "OutcastBench" "home" "[I", Cond.fieldLink RX2 9 "OutcastBench" "written" "[I", Cond.methodLink RX2 35 yX2_requireWord, Cond.static yX2_requireWord, Cond.code yX2_requireWord cX2_requireWord 1 none]
def wsL_isInOrder_r5 : List Cond := [Cond.methodLink RX2 39 yX2_lineOf, Cond.static yX2_lineOf, Cond.code yX2_lineOf cX2_lineOf 1 (some .int), Cond.methodLink RL 52 yX2_peek, Cond.instanceMethod yX2_peek, Cond.selects RX2 yX2_peek yX2_peek, Cond.code yX2_peek cX2_peek 2 (some .int), Cond.methodLink RL 55 yX2_dirty, Cond.instanceMethod yX2_dirty, Cond.selects RX2 yX2_dirty yX2_dirty, Cond.code yX2_dirty cX2_dirty 1 (some .int), Cond.methodLink RX2 121 yX0_countDirty, Cond.instanceMethod yX0_countDirty, Cond.selects RX0 yX0_countDirty yX0_countDirty, Cond.code yX0_countDirty cX0_countDirty 3 (some .int), Cond.fieldLink RX0 18 "OutcastBench$CacheAndBench" "dirtyLines" "[Z"]
def wsL_isInOrder : List Cond := .code yL_isInOrder cL_isInOrder 8 (some .boolean) :: ((wsL_isInOrder_r1 ++ (wsL_isInOrder_r2 ++ (wsL_isInOrder_r3 ++ (wsL_isInOrder_r4 ++ wsL_isInOrder_r5)))) ++ wsX20 ++ wsX00 ++ (vx_atS RX2 111 "java/lang/IndexOutOfBoundsException" ["java/lang/RuntimeException", "java/lang/Exception"]).filter goodWord)
def wsL_address : List Cond := .code yL_address cL_address 1 (some .int) :: ([])
def wsL_law0_r1 : List Cond := [Cond.classLink RL 9 RX2, Cond.instantiable RX2 5, Cond.initialized RX2, Cond.arrayClass .int, Cond.methodLink RL 58 yX2_init, Cond.instanceMethod yX2_init, Cond.code yX2_init cX2_init 1 none, Cond.methodLink RX2 3 objectInit, Cond.instanceMethod objectInit, Cond.code objectInit ⟨#[0xb1]⟩ 1 none, Cond.fieldLink RX2 9 "OutcastBench" "written" "[I", Cond.fieldLink RX2 13 "OutcastBench" "home" "[I", Cond.classLink RX2 16 RX0, Cond.instantiable RX0 11, Cond.initialized RX0, Cond.fieldLink RX2 21 "OutcastBench" "actual" "LOutcastBench$CacheAndBench;", Cond.fieldLink RX2 25 "OutcastBench" "trial" "LOutcastBench$CacheAndBench;", Cond.classLink RX2 28 RX1, Cond.instantiable RX1 4, Cond.initialized RX1, Cond.fieldLink RX2 31 "OutcastBench" "last" "LOutcastBench$LastAccesses;", Cond.methodLink RX2 18 yX0_init, Cond.instanceMethod yX0_init, Cond.code yX0_init cX0_init 3 none]
def wsL_law0_r2 : List Cond := [Cond.methodLink RX0 3 objectInit, Cond.fieldLink RX0 9 "OutcastBench$CacheAndBench" "lines" "[I", Cond.fieldLink RX0 15 "OutcastBench$CacheAndBench" "bench" "[I", Cond.arrayClass .boolean, Cond.fieldLink RX0 18 "OutcastBench$CacheAndBench" "dirtyLines" "[Z", Cond.methodLink RX0 22 yX0_startEmpty, Cond.instanceMethod yX0_startEmpty, Cond.selects RX0 yX0_startEmpty yX0_startEmpty, Cond.code yX0_startEmpty cX0_startEmpty 4 none, Cond.fieldLink RX0 26 "OutcastBench$CacheAndBench" "setCount" "I", Cond.fieldLink RX0 30 "OutcastBench$CacheAndBench" "placeCount" "I", Cond.fieldLink RX0 39 "OutcastBench$CacheAndBench" "seated" "I", Cond.methodLink RX0 33 yJ7_fill_53178, Cond.static yJ7_fill_53178, Cond.initialized RJ7, Cond.code yJ7_fill_53178 cJ7_fill_53178 4 none, Cond.instanceMethod yX1_init, Cond.code yX1_init cX1_init 1 none, Cond.methodLink RX1 3 objectInit, Cond.fieldLink RX1 9 "OutcastBench$LastAccesses" "lines" "[I", Cond.fieldLink RX1 15 "OutcastBench$LastAccesses" "writes" "[Z", Cond.methodLink RL 59 yL_drawn, Cond.static yL_drawn, Cond.initialized RL]
def wsL_law0_r3 : List Cond := [Cond.code yL_drawn cL_drawn 4 (some .int), Cond.constant RL 7 (40009), Cond.methodLink RL 14 yX2_hits, Cond.instanceMethod yX2_hits, Cond.selects RX2 yX2_hits yX2_hits, Cond.code yX2_hits cX2_hits 1 (some .int), Cond.fieldLink RX2 124 "OutcastBench$CacheAndBench" "hitCount" "I", Cond.methodLink RL 8 yX2_cost, Cond.instanceMethod yX2_cost, Cond.selects RX2 yX2_cost yX2_cost, Cond.code yX2_cost cX2_cost 1 (some .int), Cond.fieldLink RX2 61 "OutcastBench$CacheAndBench" "costSoFar" "I", Cond.methodLink RL 65 yL_address, Cond.static yL_address, Cond.code yL_address cL_address 1 (some .int), Cond.methodLink RL 39 yX2_placeOf, Cond.instanceMethod yX2_placeOf, Cond.selects RX2 yX2_placeOf yX2_placeOf, Cond.code yX2_placeOf cX2_placeOf 2 (some .int), Cond.methodLink RX2 115 yX2_requireLine, Cond.static yX2_requireLine, Cond.code yX2_requireLine cX2_requireLine 1 none, Cond.classLink RX2 107 "java/lang/IndexOutOfBoundsException", Cond.initialized "java/lang/IndexOutOfBoundsException"]
def wsL_law0_r4 : List Cond := [Cond.methodLink RX2 118 yX0_whereIs, Cond.instanceMethod yX0_whereIs, Cond.selects RX0 yX0_whereIs yX0_whereIs, Cond.code yX0_whereIs cX0_whereIs 2 (some .int), Cond.methodLink RX0 42 yX0_setOf, Cond.instanceMethod yX0_setOf, Cond.selects RX0 yX0_setOf yX0_setOf, Cond.code yX0_setOf cX0_setOf 2 (some .int), Cond.methodLink RX0 52 yX0_seatOf, Cond.instanceMethod yX0_seatOf, Cond.selects RX0 yX0_seatOf yX0_seatOf, Cond.code yX0_seatOf cX0_seatOf 3 (some .int), Cond.methodLink RL 68 yX2_read, Cond.instanceMethod yX2_read, Cond.selects RX2 yX2_read yX2_read, Cond.code yX2_read cX2_read 2 (some .int), Cond.methodLink RX2 35 yX2_requireWord, Cond.static yX2_requireWord, Cond.code yX2_requireWord cX2_requireWord 1 none, Cond.methodLink RX2 39 yX2_lineOf, Cond.static yX2_lineOf, Cond.code yX2_lineOf cX2_lineOf 1 (some .int), Cond.methodLink RX2 43 yX2_ask, Cond.instanceMethod yX2_ask]
def wsL_law0_r5 : List Cond := [Cond.selects RX2 yX2_ask yX2_ask, Cond.code yX2_ask cX2_ask 3 none, Cond.methodLink RX2 139 yX0_access, Cond.instanceMethod yX0_access, Cond.selects RX0 yX0_access yX0_access, Cond.code yX0_access cX0_access 5 none, Cond.fieldLink RX0 46 "OutcastBench$CacheAndBench" "hitCount" "I", Cond.fieldLink RX0 49 "OutcastBench$CacheAndBench" "costSoFar" "I", Cond.fieldLink RX0 55 "OutcastBench$CacheAndBench" "missCount" "I", Cond.fieldLink RX0 58 "OutcastBench$CacheAndBench" "swapCount" "I", Cond.methodLink RX0 61 yX0_leaveBench, Cond.instanceMethod yX0_leaveBench, Cond.selects RX0 yX0_leaveBench yX0_leaveBench, Cond.code yX0_leaveBench cX0_leaveBench 3 none, Cond.methodLink RX0 65 yX0_throwOut, Cond.instanceMethod yX0_throwOut, Cond.selects RX0 yX0_throwOut yX0_throwOut, Cond.code yX0_throwOut cX0_throwOut 3 none, Cond.methodLink RX0 68 yX0_bringHomeIfDirty, Cond.instanceMethod yX0_bringHomeIfDirty, Cond.selects RX0 yX0_bringHomeIfDirty yX0_bringHomeIfDirty, Cond.code yX0_bringHomeIfDirty cX0_bringHomeIfDirty 2 none, Cond.fieldLink RX0 71 "OutcastBench$CacheAndBench" "homecomingCount" "I", Cond.methodLink RX2 142 yX1_add]
def wsL_law0_r6 : List Cond := [Cond.instanceMethod yX1_add, Cond.selects RX1 yX1_add yX1_add, Cond.code yX1_add cX1_add 3 none, Cond.fieldLink RX1 19 "OutcastBench$LastAccesses" "next" "I", Cond.fieldLink RX1 23 "OutcastBench$LastAccesses" "count" "I", Cond.methodLink RL 71 yX2_write, Cond.instanceMethod yX2_write, Cond.selects RX2 yX2_write yX2_write, Cond.code yX2_write cX2_write 5 (some .int), Cond.fieldLink RX2 47 "OutcastBench$CacheAndBench" "dirtyLines" "[Z", Cond.methodLink RX2 51 yX2_keepHomeWords, Cond.instanceMethod yX2_keepHomeWords, Cond.selects RX2 yX2_keepHomeWords yX2_keepHomeWords, Cond.code yX2_keepHomeWords cX2_keepHomeWords 3 none, Cond.methodLink RX2 145 arraycopyName, Cond.native arraycopyName, Cond.static arraycopyName, Cond.initialized "java/lang/System", Cond.methodLink RL 45 yX2_isDirty, Cond.instanceMethod yX2_isDirty, Cond.selects RX2 yX2_isDirty yX2_isDirty, Cond.code yX2_isDirty cX2_isDirty 2 (some .boolean), Cond.methodLink RL 52 yX2_peek, Cond.instanceMethod yX2_peek]
def wsL_law0_r7 : List Cond := [Cond.selects RX2 yX2_peek yX2_peek, Cond.code yX2_peek cX2_peek 2 (some .int), Cond.methodLink RL 75 yX2_walk, Cond.instanceMethod yX2_walk, Cond.selects RX2 yX2_walk yX2_walk, Cond.code yX2_walk cX2_walk 7 (some .int), Cond.classLink RX2 54 "java/lang/IllegalArgumentException", Cond.initialized "java/lang/IllegalArgumentException", Cond.methodLink RX2 65 yJ9_floorMod_7cf53, Cond.static yJ9_floorMod_7cf53, Cond.initialized RJ9, Cond.code yJ9_floorMod_7cf53 cJ9_floorMod_7cf53 3 (some .int), Cond.methodLink RL 55 yX2_dirty, Cond.instanceMethod yX2_dirty, Cond.selects RX2 yX2_dirty yX2_dirty, Cond.code yX2_dirty cX2_dirty 1 (some .int), Cond.methodLink RX2 121 yX0_countDirty, Cond.instanceMethod yX0_countDirty, Cond.selects RX0 yX0_countDirty yX0_countDirty, Cond.code yX0_countDirty cX0_countDirty 3 (some .int), Cond.methodLink RL 79 yX2_bringHome, Cond.instanceMethod yX2_bringHome, Cond.selects RX2 yX2_bringHome yX2_bringHome, Cond.code yX2_bringHome cX2_bringHome 1 (some .int)]
def wsL_law0_r8 : List Cond := [Cond.methodLink RX2 71 yX0_bringAllHome, Cond.instanceMethod yX0_bringAllHome, Cond.selects RX0 yX0_bringAllHome yX0_bringAllHome, Cond.code yX0_bringAllHome cX0_bringAllHome 3 (some .int), Cond.methodLink RL 82 yX2_build, Cond.instanceMethod yX2_build, Cond.selects RX2 yX2_build yX2_build, Cond.code yX2_build cX2_build 4 (some .int), Cond.methodLink RX2 75 yX2_requireSize, Cond.static yX2_requireSize, Cond.code yX2_requireSize cX2_requireSize 3 none, Cond.methodLink RX2 78 yX0_countLines, Cond.instanceMethod yX0_countLines, Cond.selects RX0 yX0_countLines yX0_countLines, Cond.code yX0_countLines cX0_countLines 3 (some .int), Cond.methodLink RX2 81 yX0_startEmpty, Cond.methodLink RL 26 yX2_sitting, Cond.instanceMethod yX2_sitting, Cond.selects RX2 yX2_sitting yX2_sitting, Cond.code yX2_sitting cX2_sitting 1 (some .int), Cond.fieldLink RX2 104 "OutcastBench$CacheAndBench" "seated" "I", Cond.methodLink RL 32 yX2_sets, Cond.instanceMethod yX2_sets, Cond.selects RX2 yX2_sets yX2_sets]
def wsL_law0_r9 : List Cond := [Cond.code yX2_sets cX2_sets 1 (some .int), Cond.fieldLink RX2 98 "OutcastBench$CacheAndBench" "setCount" "I", Cond.methodLink RL 35 yX2_lineIn, Cond.instanceMethod yX2_lineIn, Cond.selects RX2 yX2_lineIn yX2_lineIn, Cond.code yX2_lineIn cX2_lineIn 2 (some .int), Cond.fieldLink RX2 87 "OutcastBench$CacheAndBench" "lines" "[I", Cond.methodLink RX2 84 yX2_requireSet, Cond.instanceMethod yX2_requireSet, Cond.selects RX2 yX2_requireSet yX2_requireSet, Cond.code yX2_requireSet cX2_requireSet 2 none, Cond.methodLink RL 85 yX2_cast, Cond.instanceMethod yX2_cast, Cond.selects RX2 yX2_cast yX2_cast, Cond.code yX2_cast cX2_cast 3 (some .int), Cond.classLink RX2 90 "java/lang/IllegalStateException", Cond.initialized "java/lang/IllegalStateException", Cond.methodLink RX2 95 yX0_throwOut, Cond.methodLink RL 29 yX2_places, Cond.instanceMethod yX2_places, Cond.selects RX2 yX2_places yX2_places, Cond.code yX2_places cX2_places 1 (some .int), Cond.fieldLink RX2 101 "OutcastBench$CacheAndBench" "placeCount" "I", Cond.methodLink RL 42 yX2_lineOnBench]
def wsL_law0_r10 : List Cond := [Cond.instanceMethod yX2_lineOnBench, Cond.selects RX2 yX2_lineOnBench yX2_lineOnBench, Cond.code yX2_lineOnBench cX2_lineOnBench 2 (some .int), Cond.fieldLink RX2 112 "OutcastBench$CacheAndBench" "bench" "[I", Cond.methodLink RL 88 yL_isInOrder, Cond.static yL_isInOrder, Cond.code yL_isInOrder cL_isInOrder 8 (some .boolean), Cond.methodLink RL 17 yX2_swaps, Cond.instanceMethod yX2_swaps, Cond.selects RX2 yX2_swaps yX2_swaps, Cond.code yX2_swaps cX2_swaps 1 (some .int), Cond.fieldLink RX2 127 "OutcastBench$CacheAndBench" "swapCount" "I", Cond.methodLink RL 20 yX2_misses, Cond.instanceMethod yX2_misses, Cond.selects RX2 yX2_misses yX2_misses, Cond.code yX2_misses cX2_misses 1 (some .int), Cond.fieldLink RX2 130 "OutcastBench$CacheAndBench" "missCount" "I", Cond.methodLink RL 23 yX2_homecomings, Cond.instanceMethod yX2_homecomings, Cond.selects RX2 yX2_homecomings yX2_homecomings, Cond.code yX2_homecomings cX2_homecomings 1 (some .int), Cond.fieldLink RX2 133 "OutcastBench$CacheAndBench" "homecomingCount" "I", Cond.methodLink RL 49 yX2_atHome, Cond.instanceMethod yX2_atHome]
def wsL_law0_r11 : List Cond := [Cond.selects RX2 yX2_atHome yX2_atHome, Cond.code yX2_atHome cX2_atHome 2 (some .int), Cond.methodLink RL 92 yX2_wouldCost, Cond.instanceMethod yX2_wouldCost, Cond.selects RX2 yX2_wouldCost yX2_wouldCost, Cond.code yX2_wouldCost cX2_wouldCost 3 (some .int), Cond.methodLink RX2 136 yX2_costOfTrial, Cond.instanceMethod yX2_costOfTrial, Cond.selects RX2 yX2_costOfTrial yX2_costOfTrial, Cond.code yX2_costOfTrial cX2_costOfTrial 6 (some .int), Cond.fieldLink RX2 151 "OutcastBench$LastAccesses" "count" "I", Cond.fieldLink RX2 157 "OutcastBench$LastAccesses" "lines" "[I", Cond.fieldLink RX2 158 "OutcastBench$LastAccesses" "writes" "[Z", Cond.methodLink RX2 154 yX1_slotOf, Cond.instanceMethod yX1_slotOf, Cond.selects RX1 yX1_slotOf yX1_slotOf, Cond.code yX1_slotOf cX1_slotOf 3 (some .int), Cond.methodLink RL 95 yX2_bestPlaces, Cond.instanceMethod yX2_bestPlaces, Cond.selects RX2 yX2_bestPlaces yX2_bestPlaces, Cond.code yX2_bestPlaces cX2_bestPlaces 5 (some .int)]
def wsL_law0 : List Cond := (wsL_law0_r1 ++ (wsL_law0_r2 ++ (wsL_law0_r3 ++ (wsL_law0_r4 ++ (wsL_law0_r5 ++ (wsL_law0_r6 ++ (wsL_law0_r7 ++ (wsL_law0_r8 ++ (wsL_law0_r9 ++ (wsL_law0_r10 ++ wsL_law0_r11)))))))))) ++ wsX20 ++ wsX00 ++ wsX10 ++ ([] : List Cond)
def wsL_law : List Cond := wsL_law0 ++ (vx_atS RX2 111 "java/lang/IndexOutOfBoundsException" ["java/lang/RuntimeException", "java/lang/Exception"]).filter goodWord ++ (vx_atS RX2 58 "java/lang/IllegalArgumentException" ["java/lang/RuntimeException", "java/lang/Exception"]).filter goodWord ++ (vx_atS RX2 94 "java/lang/IllegalStateException" ["java/lang/RuntimeException", "java/lang/Exception"]).filter goodWord
end
section
set_option maxRecDepth 20000 in
theorem wsL_law0_r1_in : ∀ w ∈ wsL_law0_r1, w ∈ lw_tbl := fun w h => (goodIn_p wsL_law0_r1 [26, 29, 34] (by decide +kernel) (by decide +kernel) w h).1
set_option maxRecDepth 20000 in
theorem wsL_law0_r2_in : ∀ w ∈ wsL_law0_r2, w ∈ lw_tbl := fun w h => (goodIn_p wsL_law0_r2 [39, 42, 94] (by decide +kernel) (by decide +kernel) w h).1
set_option maxRecDepth 20000 in
theorem wsL_law0_r3_in : ∀ w ∈ wsL_law0_r3, w ∈ lw_tbl := fun w h => (goodIn_p wsL_law0_r3 [406, 375, 387, 417, 343, 346] (by decide +kernel) (by decide +kernel) w h).1
set_option maxRecDepth 20000 in
theorem wsL_law0_r4_in : ∀ w ∈ wsL_law0_r4, w ∈ lw_tbl := fun w h => (goodIn_p wsL_law0_r4 [351, 217, 221, 131, 134, 205] (by decide +kernel) (by decide +kernel) w h).1
set_option maxRecDepth 20000 in
theorem wsL_law0_r5_in : ∀ w ∈ wsL_law0_r5, w ∈ lw_tbl := fun w h => (goodIn_p wsL_law0_r5 [209, 213, 225, 229, 233] (by decide +kernel) (by decide +kernel) w h).1
set_option maxRecDepth 20000 in
theorem wsL_law0_r6_in : ∀ w ∈ wsL_law0_r6, w ∈ lw_tbl := fun w h => (goodIn_p wsL_law0_r6 [237, 241, 245, 355] (by decide +kernel) (by decide +kernel) w h).1
set_option maxRecDepth 20000 in
theorem wsL_law0_r7_in : ∀ w ∈ wsL_law0_r7, w ∈ lw_tbl := fun w h => (goodIn_p wsL_law0_r7 [371, 252, 271, 359, 363, 275] (by decide +kernel) (by decide +kernel) w h).1
set_option maxRecDepth 20000 in
theorem wsL_law0_r8_in : ∀ w ∈ wsL_law0_r8, w ∈ lw_tbl := fun w h => (goodIn_p wsL_law0_r8 [279, 283, 286, 291, 334] (by decide +kernel) (by decide +kernel) w h).1
set_option maxRecDepth 20000 in
theorem wsL_law0_r9_in : ∀ w ∈ wsL_law0_r9, w ∈ lw_tbl := fun w h => (goodIn_p wsL_law0_r9 [322, 330, 300, 296, 326] (by decide +kernel) (by decide +kernel) w h).1
set_option maxRecDepth 20000 in
theorem wsL_law0_r10_in : ∀ w ∈ wsL_law0_r10, w ∈ lw_tbl := fun w h => (goodIn_p wsL_law0_r10 [338, 410, 379, 383, 414] (by decide +kernel) (by decide +kernel) w h).1
set_option maxRecDepth 20000 in
theorem wsL_law0_r11_in : ∀ w ∈ wsL_law0_r11, w ∈ lw_tbl := fun w h => (goodIn_p wsL_law0_r11 [367, 391, 395, 399, 403] (by decide +kernel) (by decide +kernel) w h).1
set_option maxRecDepth 20000 in
theorem wsX20_tb : ∀ w ∈ wsX20, w ∈ lw_tbl := by decide +kernel
set_option maxRecDepth 20000 in
theorem wsX00_tb : ∀ w ∈ wsX00, w ∈ lw_tbl := by decide +kernel
set_option maxRecDepth 20000 in
theorem wsX10_tb : ∀ w ∈ wsX10, w ∈ lw_tbl := by decide +kernel
theorem wsL_law_in0 : ∀ w ∈ wsL_law0, w ∈ lw_tbl := by
  intro w h
  rcases List.mem_append.mp h with h | h
  · rcases List.mem_append.mp h with h | h
    · rcases List.mem_append.mp h with h | h
      · rcases List.mem_append.mp h with h | h
        · rcases List.mem_append.mp h with h | h
          · exact wsL_law0_r1_in w h
          rcases List.mem_append.mp h with h | h
          · exact wsL_law0_r2_in w h
          rcases List.mem_append.mp h with h | h
          · exact wsL_law0_r3_in w h
          rcases List.mem_append.mp h with h | h
          · exact wsL_law0_r4_in w h
          rcases List.mem_append.mp h with h | h
          · exact wsL_law0_r5_in w h
          rcases List.mem_append.mp h with h | h
          · exact wsL_law0_r6_in w h
          rcases List.mem_append.mp h with h | h
          · exact wsL_law0_r7_in w h
          rcases List.mem_append.mp h with h | h
          · exact wsL_law0_r8_in w h
          rcases List.mem_append.mp h with h | h
          · exact wsL_law0_r9_in w h
          rcases List.mem_append.mp h with h | h
          · exact wsL_law0_r10_in w h
          exact wsL_law0_r11_in w h
        · exact wsX20_tb w h
      · exact wsX00_tb w h
    · exact wsX10_tb w h
  · exact absurd h List.not_mem_nil
end
section
theorem wsL_law_x0 : ∀ w ∈ (vx_atS RX2 111 "java/lang/IndexOutOfBoundsException" ["java/lang/RuntimeException", "java/lang/Exception"]).filter goodWord, w ∈ lw_tbl := by decide +kernel
theorem wsL_law_x1 : ∀ w ∈ (vx_atS RX2 58 "java/lang/IllegalArgumentException" ["java/lang/RuntimeException", "java/lang/Exception"]).filter goodWord, w ∈ lw_tbl := by decide +kernel
theorem wsL_law_x2 : ∀ w ∈ (vx_atS RX2 94 "java/lang/IllegalStateException" ["java/lang/RuntimeException", "java/lang/Exception"]).filter goodWord, w ∈ lw_tbl := by decide +kernel
theorem wsL_law_in : ∀ w ∈ wsL_law, w ∈ lw_tbl := fun w h => (List.mem_append.mp h).elim (fun h => (List.mem_append.mp h).elim (fun h => (List.mem_append.mp h).elim (fun h => wsL_law_in0 w h) (fun h => wsL_law_x0 w h)) (fun h => wsL_law_x1 w h)) (fun h => wsL_law_x2 w h)
theorem inlX0 : ∀ w ∈ wsX00, w ∈ wsL_law := fun _ h => List.mem_append_left _ (List.mem_append_left _ (List.mem_append_left _ (List.mem_append_left _ (List.mem_append_left _ (List.mem_append_right _ h)))))
theorem inX0 : ∀ w ∈ wsX00, w ∈ lw_tbl := fun w h => wsL_law_in w (inlX0 w h)
theorem inlX1 : ∀ w ∈ wsX10, w ∈ wsL_law := fun _ h => List.mem_append_left _ (List.mem_append_left _ (List.mem_append_left _ (List.mem_append_left _ (List.mem_append_right _ h))))
theorem inX1 : ∀ w ∈ wsX10, w ∈ lw_tbl := fun w h => wsL_law_in w (inlX1 w h)
theorem inlX2 : ∀ w ∈ wsX20, w ∈ wsL_law := fun _ h => List.mem_append_left _ (List.mem_append_left _ (List.mem_append_left _ (List.mem_append_left _ (List.mem_append_left _ (List.mem_append_left _ (List.mem_append_right _ h))))))
theorem inX2 : ∀ w ∈ wsX20, w ∈ lw_tbl := fun w h => wsL_law_in w (inlX2 w h)
theorem inX3 : ∀ w ∈ wsX30, w ∈ lw_tbl := by decide +kernel
theorem inJx145de : ∀ w ∈ wsJx145de0, w ∈ lw_tbl := by decide +kernel
theorem inJ9 : ∀ w ∈ wsJ90, w ∈ lw_tbl := by decide +kernel
theorem inJ0 : ∀ w ∈ wsJ00, w ∈ lw_tbl := by decide +kernel
theorem inJ10 : ∀ w ∈ wsJ100, w ∈ lw_tbl := by decide +kernel
theorem inJ7 : ∀ w ∈ wsJ70, w ∈ lw_tbl := by decide +kernel
set_option maxRecDepth 20000 in
theorem ggX0_init_X0_startEmpty : GoodIn wsX0_init wsX0_startEmpty := goodIn_r _ [13, 14, 15, 5, 16, 8, 17, 18, 19, 20, 21, 22, 23, 24, 25, 26, 27, 28, 29, 30, 31] (by decide +kernel) (by decide +kernel)
set_option maxRecDepth 20000 in
theorem gX0_init_X0_startEmpty : GoodIn wsX0_init (wsV RX0 22 RX0 yX0_startEmpty wsX0_startEmpty) := goodIn_app (goodIn_of _ (by decide +kernel)) ggX0_init_X0_startEmpty
theorem dX0_init_0 : decode cX0_init 0 = .ok (.aload_n 0, 1) := by decide +kernel
theorem dX0_init_1 : decode cX0_init 1 = .ok (.invokespecial 3, 3) := by decide +kernel
theorem dX0_init_4 : decode cX0_init 4 = .ok (.aload_n 0, 1) := by decide +kernel
theorem dX0_init_5 : decode cX0_init 5 = .ok (.bipush 16, 2) := by decide +kernel
theorem dX0_init_7 : decode cX0_init 7 = .ok (.newarray .int, 2) := by decide +kernel
theorem dX0_init_9 : decode cX0_init 9 = .ok (.putfield 9, 3) := by decide +kernel
theorem dX0_init_12 : decode cX0_init 12 = .ok (.aload_n 0, 1) := by decide +kernel
theorem dX0_init_13 : decode cX0_init 13 = .ok (.bipush 8, 2) := by decide +kernel
theorem dX0_init_15 : decode cX0_init 15 = .ok (.newarray .int, 2) := by decide +kernel
theorem dX0_init_17 : decode cX0_init 17 = .ok (.putfield 15, 3) := by decide +kernel
theorem dX0_init_20 : decode cX0_init 20 = .ok (.aload_n 0, 1) := by decide +kernel
theorem dX0_init_21 : decode cX0_init 21 = .ok (.sipush 256, 3) := by decide +kernel
theorem dX0_init_24 : decode cX0_init 24 = .ok (.newarray .boolean, 2) := by decide +kernel
theorem dX0_init_26 : decode cX0_init 26 = .ok (.putfield 18, 3) := by decide +kernel
theorem dX0_init_29 : decode cX0_init 29 = .ok (.aload_n 0, 1) := by decide +kernel
theorem dX0_init_30 : decode cX0_init 30 = .ok (.iload_n 1, 1) := by decide +kernel
theorem dX0_init_31 : decode cX0_init 31 = .ok (.iload_n 2, 1) := by decide +kernel
theorem dX0_init_32 : decode cX0_init 32 = .ok (.invokevirtual 22, 3) := by decide +kernel
theorem dX0_init_35 : decode cX0_init 35 = .ok (.return_, 1) := by decide +kernel
set_option maxRecDepth 20000 in
theorem ggX0_startEmpty_J7_fill_53178 : GoodIn wsX0_startEmpty wsJ7_fill_53178 := goodIn_r _ [9] (by decide +kernel) (by decide +kernel)
set_option maxRecDepth 20000 in
theorem gX0_startEmpty_J7_fill_53178 : GoodIn wsX0_startEmpty (va_wsS RX0 33 yJ7_fill_53178 wsJ7_fill_53178) := goodIn_app (goodIn_of _ (by decide +kernel)) ggX0_startEmpty_J7_fill_53178
theorem dX0_startEmpty_0 : decode cX0_startEmpty 0 = .ok (.aload_n 0, 1) := by decide +kernel
theorem dX0_startEmpty_1 : decode cX0_startEmpty 1 = .ok (.iload_n 1, 1) := by decide +kernel
theorem dX0_startEmpty_2 : decode cX0_startEmpty 2 = .ok (.putfield 26, 3) := by decide +kernel
theorem dX0_startEmpty_5 : decode cX0_startEmpty 5 = .ok (.aload_n 0, 1) := by decide +kernel
theorem dX0_startEmpty_6 : decode cX0_startEmpty 6 = .ok (.iload_n 2, 1) := by decide +kernel
theorem dX0_startEmpty_7 : decode cX0_startEmpty 7 = .ok (.putfield 30, 3) := by decide +kernel
theorem dX0_startEmpty_10 : decode cX0_startEmpty 10 = .ok (.aload_n 0, 1) := by decide +kernel
theorem dX0_startEmpty_11 : decode cX0_startEmpty 11 = .ok (.getfield 9, 3) := by decide +kernel
theorem dX0_startEmpty_14 : decode cX0_startEmpty 14 = .ok (.iconst (-1), 1) := by decide +kernel
theorem dX0_startEmpty_15 : decode cX0_startEmpty 15 = .ok (.invokestatic 33, 3) := by decide +kernel
theorem dX0_startEmpty_18 : decode cX0_startEmpty 18 = .ok (.aload_n 0, 1) := by decide +kernel
theorem dX0_startEmpty_19 : decode cX0_startEmpty 19 = .ok (.iconst 0, 1) := by decide +kernel
theorem dX0_startEmpty_20 : decode cX0_startEmpty 20 = .ok (.putfield 39, 3) := by decide +kernel
theorem dX0_startEmpty_23 : decode cX0_startEmpty 23 = .ok (.iconst 0, 1) := by decide +kernel
theorem dX0_startEmpty_24 : decode cX0_startEmpty 24 = .ok (.istore_n 3, 1) := by decide +kernel
theorem dX0_startEmpty_25 : decode cX0_startEmpty 25 = .ok (.iload_n 3, 1) := by decide +kernel
theorem dX0_startEmpty_26 : decode cX0_startEmpty 26 = .ok (.sipush 256, 3) := by decide +kernel
theorem dX0_startEmpty_29 : decode cX0_startEmpty 29 = .ok (.if_icmp .ge 16, 3) := by decide +kernel
theorem dX0_startEmpty_32 : decode cX0_startEmpty 32 = .ok (.aload_n 0, 1) := by decide +kernel
theorem dX0_startEmpty_33 : decode cX0_startEmpty 33 = .ok (.getfield 18, 3) := by decide +kernel
theorem dX0_startEmpty_36 : decode cX0_startEmpty 36 = .ok (.iload_n 3, 1) := by decide +kernel
theorem dX0_startEmpty_37 : decode cX0_startEmpty 37 = .ok (.iconst 0, 1) := by decide +kernel
theorem dX0_startEmpty_38 : decode cX0_startEmpty 38 = .ok (.bastore, 1) := by decide +kernel
theorem dX0_startEmpty_39 : decode cX0_startEmpty 39 = .ok (.iinc 3 1, 3) := by decide +kernel
theorem dX0_startEmpty_42 : decode cX0_startEmpty 42 = .ok (.goto (-17), 3) := by decide +kernel
theorem dX0_startEmpty_45 : decode cX0_startEmpty 45 = .ok (.return_, 1) := by decide +kernel
set_option maxRecDepth 20000 in
theorem ggX0_access_X0_setOf : GoodIn wsX0_access wsX0_setOf := goodIn_r _ [11, 12, 33, 34, 35, 36, 37, 38, 39, 40, 41, 42, 43] (by decide +kernel) (by decide +kernel)
set_option maxRecDepth 20000 in
theorem gX0_access_X0_setOf : GoodIn wsX0_access (wsV RX0 42 RX0 yX0_setOf wsX0_setOf) := goodIn_app (goodIn_of _ (by decide +kernel)) ggX0_access_X0_setOf
set_option maxRecDepth 20000 in
theorem ggX0_access_X0_seatOf : GoodIn wsX0_access wsX0_seatOf := goodIn_r _ [16, 17, 18, 33, 34, 35, 36, 37, 38, 39, 40, 41, 42, 43] (by decide +kernel) (by decide +kernel)
set_option maxRecDepth 20000 in
theorem gX0_access_X0_seatOf : GoodIn wsX0_access (wsV RX0 52 RX0 yX0_seatOf wsX0_seatOf) := goodIn_app (goodIn_of _ (by decide +kernel)) ggX0_access_X0_seatOf
set_option maxRecDepth 20000 in
theorem ggX0_access_X0_leaveBench : GoodIn wsX0_access wsX0_leaveBench := goodIn_r _ [22, 17, 18, 33, 34, 35, 36, 37, 38, 39, 40, 41, 42, 43] (by decide +kernel) (by decide +kernel)
set_option maxRecDepth 20000 in
theorem gX0_access_X0_leaveBench : GoodIn wsX0_access (wsV RX0 61 RX0 yX0_leaveBench wsX0_leaveBench) := goodIn_app (goodIn_of _ (by decide +kernel)) ggX0_access_X0_leaveBench
set_option maxRecDepth 20000 in
theorem ggX0_access_X0_throwOut : GoodIn wsX0_access wsX0_throwOut := goodIn_r _ [26, 1, 27, 17, 18, 28, 29, 30, 10, 31, 6, 32, 3, 19, 20, 21, 22, 33, 34, 35, 36, 37, 38, 39, 40, 41, 42, 43] (by decide +kernel) (by decide +kernel)
set_option maxRecDepth 20000 in
theorem gX0_access_X0_throwOut : GoodIn wsX0_access (wsV RX0 65 RX0 yX0_throwOut wsX0_throwOut) := goodIn_app (goodIn_of _ (by decide +kernel)) ggX0_access_X0_throwOut
theorem dX0_access_0 : decode cX0_access 0 = .ok (.aload_n 0, 1) := by decide +kernel
theorem dX0_access_1 : decode cX0_access 1 = .ok (.iload_n 1, 1) := by decide +kernel
theorem dX0_access_2 : decode cX0_access 2 = .ok (.invokevirtual 42, 3) := by decide +kernel
theorem dX0_access_5 : decode cX0_access 5 = .ok (.istore_n 3, 1) := by decide +kernel
theorem dX0_access_6 : decode cX0_access 6 = .ok (.aload_n 0, 1) := by decide +kernel
theorem dX0_access_7 : decode cX0_access 7 = .ok (.getfield 9, 3) := by decide +kernel
theorem dX0_access_10 : decode cX0_access 10 = .ok (.iload_n 3, 1) := by decide +kernel
theorem dX0_access_11 : decode cX0_access 11 = .ok (.iaload, 1) := by decide +kernel
theorem dX0_access_12 : decode cX0_access 12 = .ok (.iload_n 1, 1) := by decide +kernel
theorem dX0_access_13 : decode cX0_access 13 = .ok (.if_icmp .ne 26, 3) := by decide +kernel
theorem dX0_access_16 : decode cX0_access 16 = .ok (.aload_n 0, 1) := by decide +kernel
theorem dX0_access_17 : decode cX0_access 17 = .ok (.dup, 1) := by decide +kernel
theorem dX0_access_18 : decode cX0_access 18 = .ok (.getfield 46, 3) := by decide +kernel
theorem dX0_access_21 : decode cX0_access 21 = .ok (.iconst 1, 1) := by decide +kernel
theorem dX0_access_22 : decode cX0_access 22 = .ok (.iadd, 1) := by decide +kernel
theorem dX0_access_23 : decode cX0_access 23 = .ok (.putfield 46, 3) := by decide +kernel
theorem dX0_access_26 : decode cX0_access 26 = .ok (.aload_n 0, 1) := by decide +kernel
theorem dX0_access_27 : decode cX0_access 27 = .ok (.dup, 1) := by decide +kernel
theorem dX0_access_28 : decode cX0_access 28 = .ok (.getfield 49, 3) := by decide +kernel
theorem dX0_access_31 : decode cX0_access 31 = .ok (.iconst 1, 1) := by decide +kernel
theorem dX0_access_32 : decode cX0_access 32 = .ok (.iadd, 1) := by decide +kernel
theorem dX0_access_33 : decode cX0_access 33 = .ok (.putfield 49, 3) := by decide +kernel
theorem dX0_access_36 : decode cX0_access 36 = .ok (.goto 78, 3) := by decide +kernel
theorem dX0_access_39 : decode cX0_access 39 = .ok (.aload_n 0, 1) := by decide +kernel
theorem dX0_access_40 : decode cX0_access 40 = .ok (.iload_n 1, 1) := by decide +kernel
theorem dX0_access_41 : decode cX0_access 41 = .ok (.invokevirtual 52, 3) := by decide +kernel
theorem dX0_access_44 : decode cX0_access 44 = .ok (.istore 4, 2) := by decide +kernel
theorem dX0_access_46 : decode cX0_access 46 = .ok (.iload 4, 2) := by decide +kernel
theorem dX0_access_48 : decode cX0_access 48 = .ok (.iconst (-1), 1) := by decide +kernel
theorem dX0_access_49 : decode cX0_access 49 = .ok (.if_icmp .ne 27, 3) := by decide +kernel
theorem dX0_access_52 : decode cX0_access 52 = .ok (.aload_n 0, 1) := by decide +kernel
theorem dX0_access_53 : decode cX0_access 53 = .ok (.dup, 1) := by decide +kernel
theorem dX0_access_54 : decode cX0_access 54 = .ok (.getfield 55, 3) := by decide +kernel
theorem dX0_access_57 : decode cX0_access 57 = .ok (.iconst 1, 1) := by decide +kernel
theorem dX0_access_58 : decode cX0_access 58 = .ok (.iadd, 1) := by decide +kernel
theorem dX0_access_59 : decode cX0_access 59 = .ok (.putfield 55, 3) := by decide +kernel
theorem dX0_access_62 : decode cX0_access 62 = .ok (.aload_n 0, 1) := by decide +kernel
theorem dX0_access_63 : decode cX0_access 63 = .ok (.dup, 1) := by decide +kernel
theorem dX0_access_64 : decode cX0_access 64 = .ok (.getfield 49, 3) := by decide +kernel
theorem dX0_access_67 : decode cX0_access 67 = .ok (.bipush 20, 2) := by decide +kernel
theorem dX0_access_69 : decode cX0_access 69 = .ok (.iadd, 1) := by decide +kernel
theorem dX0_access_70 : decode cX0_access 70 = .ok (.putfield 49, 3) := by decide +kernel
theorem dX0_access_73 : decode cX0_access 73 = .ok (.goto 29, 3) := by decide +kernel
theorem dX0_access_76 : decode cX0_access 76 = .ok (.aload_n 0, 1) := by decide +kernel
theorem dX0_access_77 : decode cX0_access 77 = .ok (.dup, 1) := by decide +kernel
theorem dX0_access_78 : decode cX0_access 78 = .ok (.getfield 58, 3) := by decide +kernel
theorem dX0_access_81 : decode cX0_access 81 = .ok (.iconst 1, 1) := by decide +kernel
theorem dX0_access_82 : decode cX0_access 82 = .ok (.iadd, 1) := by decide +kernel
theorem dX0_access_83 : decode cX0_access 83 = .ok (.putfield 58, 3) := by decide +kernel
theorem dX0_access_86 : decode cX0_access 86 = .ok (.aload_n 0, 1) := by decide +kernel
theorem dX0_access_87 : decode cX0_access 87 = .ok (.dup, 1) := by decide +kernel
theorem dX0_access_88 : decode cX0_access 88 = .ok (.getfield 49, 3) := by decide +kernel
theorem dX0_access_91 : decode cX0_access 91 = .ok (.iconst 3, 1) := by decide +kernel
theorem dX0_access_92 : decode cX0_access 92 = .ok (.iadd, 1) := by decide +kernel
theorem dX0_access_93 : decode cX0_access 93 = .ok (.putfield 49, 3) := by decide +kernel
theorem dX0_access_96 : decode cX0_access 96 = .ok (.aload_n 0, 1) := by decide +kernel
theorem dX0_access_97 : decode cX0_access 97 = .ok (.iload 4, 2) := by decide +kernel
theorem dX0_access_99 : decode cX0_access 99 = .ok (.invokevirtual 61, 3) := by decide +kernel
theorem dX0_access_102 : decode cX0_access 102 = .ok (.aload_n 0, 1) := by decide +kernel
theorem dX0_access_103 : decode cX0_access 103 = .ok (.iload_n 3, 1) := by decide +kernel
theorem dX0_access_104 : decode cX0_access 104 = .ok (.invokevirtual 65, 3) := by decide +kernel
theorem dX0_access_107 : decode cX0_access 107 = .ok (.aload_n 0, 1) := by decide +kernel
theorem dX0_access_108 : decode cX0_access 108 = .ok (.getfield 9, 3) := by decide +kernel
theorem dX0_access_111 : decode cX0_access 111 = .ok (.iload_n 3, 1) := by decide +kernel
theorem dX0_access_112 : decode cX0_access 112 = .ok (.iload_n 1, 1) := by decide +kernel
theorem dX0_access_113 : decode cX0_access 113 = .ok (.iastore, 1) := by decide +kernel
theorem dX0_access_114 : decode cX0_access 114 = .ok (.iload_n 2, 1) := by decide +kernel
theorem dX0_access_115 : decode cX0_access 115 = .ok (.ifCond .eq 10, 3) := by decide +kernel
theorem dX0_access_118 : decode cX0_access 118 = .ok (.aload_n 0, 1) := by decide +kernel
theorem dX0_access_119 : decode cX0_access 119 = .ok (.getfield 18, 3) := by decide +kernel
theorem dX0_access_122 : decode cX0_access 122 = .ok (.iload_n 1, 1) := by decide +kernel
theorem dX0_access_123 : decode cX0_access 123 = .ok (.iconst 1, 1) := by decide +kernel
theorem dX0_access_124 : decode cX0_access 124 = .ok (.bastore, 1) := by decide +kernel
theorem dX0_access_125 : decode cX0_access 125 = .ok (.return_, 1) := by decide +kernel
set_option maxRecDepth 20000 in
theorem ggX0_throwOut_X0_bringHomeIfDirty : GoodIn wsX0_throwOut wsX0_bringHomeIfDirty := goodIn_r _ [9, 10, 11, 12, 17, 18, 19, 20, 21, 22, 23, 24, 25, 26, 27] (by decide +kernel) (by decide +kernel)
set_option maxRecDepth 20000 in
theorem gX0_throwOut_X0_bringHomeIfDirty : GoodIn wsX0_throwOut (wsV RX0 68 RX0 yX0_bringHomeIfDirty wsX0_bringHomeIfDirty) := goodIn_app (goodIn_of _ (by decide +kernel)) ggX0_throwOut_X0_bringHomeIfDirty
set_option maxRecDepth 20000 in
theorem ggX0_throwOut_X0_leaveBench : GoodIn wsX0_throwOut wsX0_leaveBench := goodIn_r _ [16, 3, 4, 17, 18, 19, 20, 21, 22, 23, 24, 25, 26, 27] (by decide +kernel) (by decide +kernel)
set_option maxRecDepth 20000 in
theorem gX0_throwOut_X0_leaveBench : GoodIn wsX0_throwOut (wsV RX0 61 RX0 yX0_leaveBench wsX0_leaveBench) := goodIn_app (goodIn_of _ (by decide +kernel)) ggX0_throwOut_X0_leaveBench
theorem dX0_throwOut_0 : decode cX0_throwOut 0 = .ok (.aload_n 0, 1) := by decide +kernel
theorem dX0_throwOut_1 : decode cX0_throwOut 1 = .ok (.getfield 9, 3) := by decide +kernel
theorem dX0_throwOut_4 : decode cX0_throwOut 4 = .ok (.iload_n 1, 1) := by decide +kernel
theorem dX0_throwOut_5 : decode cX0_throwOut 5 = .ok (.iaload, 1) := by decide +kernel
theorem dX0_throwOut_6 : decode cX0_throwOut 6 = .ok (.istore_n 2, 1) := by decide +kernel
theorem dX0_throwOut_7 : decode cX0_throwOut 7 = .ok (.iload_n 2, 1) := by decide +kernel
theorem dX0_throwOut_8 : decode cX0_throwOut 8 = .ok (.iconst (-1), 1) := by decide +kernel
theorem dX0_throwOut_9 : decode cX0_throwOut 9 = .ok (.if_icmp .ne 4, 3) := by decide +kernel
theorem dX0_throwOut_12 : decode cX0_throwOut 12 = .ok (.return_, 1) := by decide +kernel
theorem dX0_throwOut_13 : decode cX0_throwOut 13 = .ok (.aload_n 0, 1) := by decide +kernel
theorem dX0_throwOut_14 : decode cX0_throwOut 14 = .ok (.getfield 9, 3) := by decide +kernel
theorem dX0_throwOut_17 : decode cX0_throwOut 17 = .ok (.iload_n 1, 1) := by decide +kernel
theorem dX0_throwOut_18 : decode cX0_throwOut 18 = .ok (.iconst (-1), 1) := by decide +kernel
theorem dX0_throwOut_19 : decode cX0_throwOut 19 = .ok (.iastore, 1) := by decide +kernel
theorem dX0_throwOut_20 : decode cX0_throwOut 20 = .ok (.aload_n 0, 1) := by decide +kernel
theorem dX0_throwOut_21 : decode cX0_throwOut 21 = .ok (.getfield 30, 3) := by decide +kernel
theorem dX0_throwOut_24 : decode cX0_throwOut 24 = .ok (.ifCond .ne 9, 3) := by decide +kernel
theorem dX0_throwOut_27 : decode cX0_throwOut 27 = .ok (.aload_n 0, 1) := by decide +kernel
theorem dX0_throwOut_28 : decode cX0_throwOut 28 = .ok (.iload_n 2, 1) := by decide +kernel
theorem dX0_throwOut_29 : decode cX0_throwOut 29 = .ok (.invokevirtual 68, 3) := by decide +kernel
theorem dX0_throwOut_32 : decode cX0_throwOut 32 = .ok (.return_, 1) := by decide +kernel
theorem dX0_throwOut_33 : decode cX0_throwOut 33 = .ok (.aload_n 0, 1) := by decide +kernel
theorem dX0_throwOut_34 : decode cX0_throwOut 34 = .ok (.getfield 39, 3) := by decide +kernel
theorem dX0_throwOut_37 : decode cX0_throwOut 37 = .ok (.aload_n 0, 1) := by decide +kernel
theorem dX0_throwOut_38 : decode cX0_throwOut 38 = .ok (.getfield 30, 3) := by decide +kernel
theorem dX0_throwOut_41 : decode cX0_throwOut 41 = .ok (.if_icmp .lt 18, 3) := by decide +kernel
theorem dX0_throwOut_44 : decode cX0_throwOut 44 = .ok (.aload_n 0, 1) := by decide +kernel
theorem dX0_throwOut_45 : decode cX0_throwOut 45 = .ok (.aload_n 0, 1) := by decide +kernel
theorem dX0_throwOut_46 : decode cX0_throwOut 46 = .ok (.getfield 15, 3) := by decide +kernel
theorem dX0_throwOut_49 : decode cX0_throwOut 49 = .ok (.iconst 0, 1) := by decide +kernel
theorem dX0_throwOut_50 : decode cX0_throwOut 50 = .ok (.iaload, 1) := by decide +kernel
theorem dX0_throwOut_51 : decode cX0_throwOut 51 = .ok (.invokevirtual 68, 3) := by decide +kernel
theorem dX0_throwOut_54 : decode cX0_throwOut 54 = .ok (.aload_n 0, 1) := by decide +kernel
theorem dX0_throwOut_55 : decode cX0_throwOut 55 = .ok (.iconst 0, 1) := by decide +kernel
theorem dX0_throwOut_56 : decode cX0_throwOut 56 = .ok (.invokevirtual 61, 3) := by decide +kernel
theorem dX0_throwOut_59 : decode cX0_throwOut 59 = .ok (.aload_n 0, 1) := by decide +kernel
theorem dX0_throwOut_60 : decode cX0_throwOut 60 = .ok (.getfield 15, 3) := by decide +kernel
theorem dX0_throwOut_63 : decode cX0_throwOut 63 = .ok (.aload_n 0, 1) := by decide +kernel
theorem dX0_throwOut_64 : decode cX0_throwOut 64 = .ok (.getfield 39, 3) := by decide +kernel
theorem dX0_throwOut_67 : decode cX0_throwOut 67 = .ok (.iload_n 2, 1) := by decide +kernel
theorem dX0_throwOut_68 : decode cX0_throwOut 68 = .ok (.iastore, 1) := by decide +kernel
theorem dX0_throwOut_69 : decode cX0_throwOut 69 = .ok (.aload_n 0, 1) := by decide +kernel
theorem dX0_throwOut_70 : decode cX0_throwOut 70 = .ok (.dup, 1) := by decide +kernel
theorem dX0_throwOut_71 : decode cX0_throwOut 71 = .ok (.getfield 39, 3) := by decide +kernel
theorem dX0_throwOut_74 : decode cX0_throwOut 74 = .ok (.iconst 1, 1) := by decide +kernel
theorem dX0_throwOut_75 : decode cX0_throwOut 75 = .ok (.iadd, 1) := by decide +kernel
theorem dX0_throwOut_76 : decode cX0_throwOut 76 = .ok (.putfield 39, 3) := by decide +kernel
theorem dX0_throwOut_79 : decode cX0_throwOut 79 = .ok (.return_, 1) := by decide +kernel
theorem dX0_leaveBench_0 : decode cX0_leaveBench 0 = .ok (.aload_n 0, 1) := by decide +kernel
theorem dX0_leaveBench_1 : decode cX0_leaveBench 1 = .ok (.dup, 1) := by decide +kernel
theorem dX0_leaveBench_2 : decode cX0_leaveBench 2 = .ok (.getfield 39, 3) := by decide +kernel
theorem dX0_leaveBench_5 : decode cX0_leaveBench 5 = .ok (.iconst 1, 1) := by decide +kernel
theorem dX0_leaveBench_6 : decode cX0_leaveBench 6 = .ok (.isub, 1) := by decide +kernel
theorem dX0_leaveBench_7 : decode cX0_leaveBench 7 = .ok (.putfield 39, 3) := by decide +kernel
theorem dX0_leaveBench_10 : decode cX0_leaveBench 10 = .ok (.iload_n 1, 1) := by decide +kernel
theorem dX0_leaveBench_11 : decode cX0_leaveBench 11 = .ok (.istore_n 2, 1) := by decide +kernel
theorem dX0_leaveBench_12 : decode cX0_leaveBench 12 = .ok (.iload_n 2, 1) := by decide +kernel
theorem dX0_leaveBench_13 : decode cX0_leaveBench 13 = .ok (.aload_n 0, 1) := by decide +kernel
theorem dX0_leaveBench_14 : decode cX0_leaveBench 14 = .ok (.getfield 39, 3) := by decide +kernel
theorem dX0_leaveBench_17 : decode cX0_leaveBench 17 = .ok (.if_icmp .ge 23, 3) := by decide +kernel
theorem dX0_leaveBench_20 : decode cX0_leaveBench 20 = .ok (.aload_n 0, 1) := by decide +kernel
theorem dX0_leaveBench_21 : decode cX0_leaveBench 21 = .ok (.getfield 15, 3) := by decide +kernel
theorem dX0_leaveBench_24 : decode cX0_leaveBench 24 = .ok (.iload_n 2, 1) := by decide +kernel
theorem dX0_leaveBench_25 : decode cX0_leaveBench 25 = .ok (.aload_n 0, 1) := by decide +kernel
theorem dX0_leaveBench_26 : decode cX0_leaveBench 26 = .ok (.getfield 15, 3) := by decide +kernel
theorem dX0_leaveBench_29 : decode cX0_leaveBench 29 = .ok (.iload_n 2, 1) := by decide +kernel
theorem dX0_leaveBench_30 : decode cX0_leaveBench 30 = .ok (.iconst 1, 1) := by decide +kernel
theorem dX0_leaveBench_31 : decode cX0_leaveBench 31 = .ok (.iadd, 1) := by decide +kernel
theorem dX0_leaveBench_32 : decode cX0_leaveBench 32 = .ok (.iaload, 1) := by decide +kernel
theorem dX0_leaveBench_33 : decode cX0_leaveBench 33 = .ok (.iastore, 1) := by decide +kernel
theorem dX0_leaveBench_34 : decode cX0_leaveBench 34 = .ok (.iinc 2 1, 3) := by decide +kernel
theorem dX0_leaveBench_37 : decode cX0_leaveBench 37 = .ok (.goto (-25), 3) := by decide +kernel
theorem dX0_leaveBench_40 : decode cX0_leaveBench 40 = .ok (.return_, 1) := by decide +kernel
set_option maxRecDepth 20000 in
theorem ggX0_bringAllHome_X0_bringHomeIfDirty : GoodIn wsX0_bringAllHome wsX0_bringHomeIfDirty := goodIn_r _ [10, 11, 1, 12, 13, 14, 15, 16, 17, 18, 19, 20, 21, 22, 23] (by decide +kernel) (by decide +kernel)
set_option maxRecDepth 20000 in
theorem gX0_bringAllHome_X0_bringHomeIfDirty : GoodIn wsX0_bringAllHome (wsV RX0 68 RX0 yX0_bringHomeIfDirty wsX0_bringHomeIfDirty) := goodIn_app (goodIn_of _ (by decide +kernel)) ggX0_bringAllHome_X0_bringHomeIfDirty
theorem dX0_bringAllHome_0 : decode cX0_bringAllHome 0 = .ok (.aload_n 0, 1) := by decide +kernel
theorem dX0_bringAllHome_1 : decode cX0_bringAllHome 1 = .ok (.getfield 71, 3) := by decide +kernel
theorem dX0_bringAllHome_4 : decode cX0_bringAllHome 4 = .ok (.istore_n 1, 1) := by decide +kernel
theorem dX0_bringAllHome_5 : decode cX0_bringAllHome 5 = .ok (.iconst 0, 1) := by decide +kernel
theorem dX0_bringAllHome_6 : decode cX0_bringAllHome 6 = .ok (.istore_n 2, 1) := by decide +kernel
theorem dX0_bringAllHome_7 : decode cX0_bringAllHome 7 = .ok (.iload_n 2, 1) := by decide +kernel
theorem dX0_bringAllHome_8 : decode cX0_bringAllHome 8 = .ok (.aload_n 0, 1) := by decide +kernel
theorem dX0_bringAllHome_9 : decode cX0_bringAllHome 9 = .ok (.getfield 26, 3) := by decide +kernel
theorem dX0_bringAllHome_12 : decode cX0_bringAllHome 12 = .ok (.if_icmp .ge 29, 3) := by decide +kernel
theorem dX0_bringAllHome_15 : decode cX0_bringAllHome 15 = .ok (.aload_n 0, 1) := by decide +kernel
theorem dX0_bringAllHome_16 : decode cX0_bringAllHome 16 = .ok (.getfield 9, 3) := by decide +kernel
theorem dX0_bringAllHome_19 : decode cX0_bringAllHome 19 = .ok (.iload_n 2, 1) := by decide +kernel
theorem dX0_bringAllHome_20 : decode cX0_bringAllHome 20 = .ok (.iaload, 1) := by decide +kernel
theorem dX0_bringAllHome_21 : decode cX0_bringAllHome 21 = .ok (.iconst (-1), 1) := by decide +kernel
theorem dX0_bringAllHome_22 : decode cX0_bringAllHome 22 = .ok (.if_icmp .eq 13, 3) := by decide +kernel
theorem dX0_bringAllHome_25 : decode cX0_bringAllHome 25 = .ok (.aload_n 0, 1) := by decide +kernel
theorem dX0_bringAllHome_26 : decode cX0_bringAllHome 26 = .ok (.aload_n 0, 1) := by decide +kernel
theorem dX0_bringAllHome_27 : decode cX0_bringAllHome 27 = .ok (.getfield 9, 3) := by decide +kernel
theorem dX0_bringAllHome_30 : decode cX0_bringAllHome 30 = .ok (.iload_n 2, 1) := by decide +kernel
theorem dX0_bringAllHome_31 : decode cX0_bringAllHome 31 = .ok (.iaload, 1) := by decide +kernel
theorem dX0_bringAllHome_32 : decode cX0_bringAllHome 32 = .ok (.invokevirtual 68, 3) := by decide +kernel
theorem dX0_bringAllHome_35 : decode cX0_bringAllHome 35 = .ok (.iinc 2 1, 3) := by decide +kernel
theorem dX0_bringAllHome_38 : decode cX0_bringAllHome 38 = .ok (.goto (-31), 3) := by decide +kernel
theorem dX0_bringAllHome_41 : decode cX0_bringAllHome 41 = .ok (.iconst 0, 1) := by decide +kernel
theorem dX0_bringAllHome_42 : decode cX0_bringAllHome 42 = .ok (.istore_n 2, 1) := by decide +kernel
theorem dX0_bringAllHome_43 : decode cX0_bringAllHome 43 = .ok (.iload_n 2, 1) := by decide +kernel
theorem dX0_bringAllHome_44 : decode cX0_bringAllHome 44 = .ok (.aload_n 0, 1) := by decide +kernel
theorem dX0_bringAllHome_45 : decode cX0_bringAllHome 45 = .ok (.getfield 39, 3) := by decide +kernel
theorem dX0_bringAllHome_48 : decode cX0_bringAllHome 48 = .ok (.if_icmp .ge 19, 3) := by decide +kernel
theorem dX0_bringAllHome_51 : decode cX0_bringAllHome 51 = .ok (.aload_n 0, 1) := by decide +kernel
theorem dX0_bringAllHome_52 : decode cX0_bringAllHome 52 = .ok (.aload_n 0, 1) := by decide +kernel
theorem dX0_bringAllHome_53 : decode cX0_bringAllHome 53 = .ok (.getfield 15, 3) := by decide +kernel
theorem dX0_bringAllHome_56 : decode cX0_bringAllHome 56 = .ok (.iload_n 2, 1) := by decide +kernel
theorem dX0_bringAllHome_57 : decode cX0_bringAllHome 57 = .ok (.iaload, 1) := by decide +kernel
theorem dX0_bringAllHome_58 : decode cX0_bringAllHome 58 = .ok (.invokevirtual 68, 3) := by decide +kernel
theorem dX0_bringAllHome_61 : decode cX0_bringAllHome 61 = .ok (.iinc 2 1, 3) := by decide +kernel
theorem dX0_bringAllHome_64 : decode cX0_bringAllHome 64 = .ok (.goto (-21), 3) := by decide +kernel
theorem dX0_bringAllHome_67 : decode cX0_bringAllHome 67 = .ok (.aload_n 0, 1) := by decide +kernel
theorem dX0_bringAllHome_68 : decode cX0_bringAllHome 68 = .ok (.getfield 71, 3) := by decide +kernel
theorem dX0_bringAllHome_71 : decode cX0_bringAllHome 71 = .ok (.iload_n 1, 1) := by decide +kernel
theorem dX0_bringAllHome_72 : decode cX0_bringAllHome 72 = .ok (.isub, 1) := by decide +kernel
theorem dX0_bringAllHome_73 : decode cX0_bringAllHome 73 = .ok (.ireturn, 1) := by decide +kernel
theorem dX0_bringHomeIfDirty_0 : decode cX0_bringHomeIfDirty 0 = .ok (.aload_n 0, 1) := by decide +kernel
theorem dX0_bringHomeIfDirty_1 : decode cX0_bringHomeIfDirty 1 = .ok (.getfield 18, 3) := by decide +kernel
theorem dX0_bringHomeIfDirty_4 : decode cX0_bringHomeIfDirty 4 = .ok (.iload_n 1, 1) := by decide +kernel
theorem dX0_bringHomeIfDirty_5 : decode cX0_bringHomeIfDirty 5 = .ok (.baload, 1) := by decide +kernel
theorem dX0_bringHomeIfDirty_6 : decode cX0_bringHomeIfDirty 6 = .ok (.ifCond .eq 31, 3) := by decide +kernel
theorem dX0_bringHomeIfDirty_9 : decode cX0_bringHomeIfDirty 9 = .ok (.aload_n 0, 1) := by decide +kernel
theorem dX0_bringHomeIfDirty_10 : decode cX0_bringHomeIfDirty 10 = .ok (.getfield 18, 3) := by decide +kernel
theorem dX0_bringHomeIfDirty_13 : decode cX0_bringHomeIfDirty 13 = .ok (.iload_n 1, 1) := by decide +kernel
theorem dX0_bringHomeIfDirty_14 : decode cX0_bringHomeIfDirty 14 = .ok (.iconst 0, 1) := by decide +kernel
theorem dX0_bringHomeIfDirty_15 : decode cX0_bringHomeIfDirty 15 = .ok (.bastore, 1) := by decide +kernel
theorem dX0_bringHomeIfDirty_16 : decode cX0_bringHomeIfDirty 16 = .ok (.aload_n 0, 1) := by decide +kernel
theorem dX0_bringHomeIfDirty_17 : decode cX0_bringHomeIfDirty 17 = .ok (.dup, 1) := by decide +kernel
theorem dX0_bringHomeIfDirty_18 : decode cX0_bringHomeIfDirty 18 = .ok (.getfield 71, 3) := by decide +kernel
theorem dX0_bringHomeIfDirty_21 : decode cX0_bringHomeIfDirty 21 = .ok (.iconst 1, 1) := by decide +kernel
theorem dX0_bringHomeIfDirty_22 : decode cX0_bringHomeIfDirty 22 = .ok (.iadd, 1) := by decide +kernel
theorem dX0_bringHomeIfDirty_23 : decode cX0_bringHomeIfDirty 23 = .ok (.putfield 71, 3) := by decide +kernel
theorem dX0_bringHomeIfDirty_26 : decode cX0_bringHomeIfDirty 26 = .ok (.aload_n 0, 1) := by decide +kernel
theorem dX0_bringHomeIfDirty_27 : decode cX0_bringHomeIfDirty 27 = .ok (.dup, 1) := by decide +kernel
theorem dX0_bringHomeIfDirty_28 : decode cX0_bringHomeIfDirty 28 = .ok (.getfield 49, 3) := by decide +kernel
theorem dX0_bringHomeIfDirty_31 : decode cX0_bringHomeIfDirty 31 = .ok (.bipush 10, 2) := by decide +kernel
theorem dX0_bringHomeIfDirty_33 : decode cX0_bringHomeIfDirty 33 = .ok (.iadd, 1) := by decide +kernel
theorem dX0_bringHomeIfDirty_34 : decode cX0_bringHomeIfDirty 34 = .ok (.putfield 49, 3) := by decide +kernel
theorem dX0_bringHomeIfDirty_37 : decode cX0_bringHomeIfDirty 37 = .ok (.return_, 1) := by decide +kernel
theorem dX0_countLines_0 : decode cX0_countLines 0 = .ok (.aload_n 0, 1) := by decide +kernel
theorem dX0_countLines_1 : decode cX0_countLines 1 = .ok (.getfield 39, 3) := by decide +kernel
theorem dX0_countLines_4 : decode cX0_countLines 4 = .ok (.istore_n 1, 1) := by decide +kernel
theorem dX0_countLines_5 : decode cX0_countLines 5 = .ok (.iconst 0, 1) := by decide +kernel
theorem dX0_countLines_6 : decode cX0_countLines 6 = .ok (.istore_n 2, 1) := by decide +kernel
theorem dX0_countLines_7 : decode cX0_countLines 7 = .ok (.iload_n 2, 1) := by decide +kernel
theorem dX0_countLines_8 : decode cX0_countLines 8 = .ok (.aload_n 0, 1) := by decide +kernel
theorem dX0_countLines_9 : decode cX0_countLines 9 = .ok (.getfield 26, 3) := by decide +kernel
theorem dX0_countLines_12 : decode cX0_countLines 12 = .ok (.if_icmp .ge 22, 3) := by decide +kernel
theorem dX0_countLines_15 : decode cX0_countLines 15 = .ok (.aload_n 0, 1) := by decide +kernel
theorem dX0_countLines_16 : decode cX0_countLines 16 = .ok (.getfield 9, 3) := by decide +kernel
theorem dX0_countLines_19 : decode cX0_countLines 19 = .ok (.iload_n 2, 1) := by decide +kernel
theorem dX0_countLines_20 : decode cX0_countLines 20 = .ok (.iaload, 1) := by decide +kernel
theorem dX0_countLines_21 : decode cX0_countLines 21 = .ok (.iconst (-1), 1) := by decide +kernel
theorem dX0_countLines_22 : decode cX0_countLines 22 = .ok (.if_icmp .eq 6, 3) := by decide +kernel
theorem dX0_countLines_25 : decode cX0_countLines 25 = .ok (.iinc 1 1, 3) := by decide +kernel
theorem dX0_countLines_28 : decode cX0_countLines 28 = .ok (.iinc 2 1, 3) := by decide +kernel
theorem dX0_countLines_31 : decode cX0_countLines 31 = .ok (.goto (-24), 3) := by decide +kernel
theorem dX0_countLines_34 : decode cX0_countLines 34 = .ok (.iload_n 1, 1) := by decide +kernel
theorem dX0_countLines_35 : decode cX0_countLines 35 = .ok (.ireturn, 1) := by decide +kernel
theorem dX0_countDirty_0 : decode cX0_countDirty 0 = .ok (.iconst 0, 1) := by decide +kernel
theorem dX0_countDirty_1 : decode cX0_countDirty 1 = .ok (.istore_n 1, 1) := by decide +kernel
theorem dX0_countDirty_2 : decode cX0_countDirty 2 = .ok (.iconst 0, 1) := by decide +kernel
theorem dX0_countDirty_3 : decode cX0_countDirty 3 = .ok (.istore_n 2, 1) := by decide +kernel
theorem dX0_countDirty_4 : decode cX0_countDirty 4 = .ok (.iload_n 2, 1) := by decide +kernel
theorem dX0_countDirty_5 : decode cX0_countDirty 5 = .ok (.sipush 256, 3) := by decide +kernel
theorem dX0_countDirty_8 : decode cX0_countDirty 8 = .ok (.if_icmp .ge 21, 3) := by decide +kernel
theorem dX0_countDirty_11 : decode cX0_countDirty 11 = .ok (.aload_n 0, 1) := by decide +kernel
theorem dX0_countDirty_12 : decode cX0_countDirty 12 = .ok (.getfield 18, 3) := by decide +kernel
theorem dX0_countDirty_15 : decode cX0_countDirty 15 = .ok (.iload_n 2, 1) := by decide +kernel
theorem dX0_countDirty_16 : decode cX0_countDirty 16 = .ok (.baload, 1) := by decide +kernel
theorem dX0_countDirty_17 : decode cX0_countDirty 17 = .ok (.ifCond .eq 6, 3) := by decide +kernel
theorem dX0_countDirty_20 : decode cX0_countDirty 20 = .ok (.iinc 1 1, 3) := by decide +kernel
theorem dX0_countDirty_23 : decode cX0_countDirty 23 = .ok (.iinc 2 1, 3) := by decide +kernel
theorem dX0_countDirty_26 : decode cX0_countDirty 26 = .ok (.goto (-22), 3) := by decide +kernel
theorem dX0_countDirty_29 : decode cX0_countDirty 29 = .ok (.iload_n 1, 1) := by decide +kernel
theorem dX0_countDirty_30 : decode cX0_countDirty 30 = .ok (.ireturn, 1) := by decide +kernel
set_option maxRecDepth 20000 in
theorem ggX0_whereIs_X0_setOf : GoodIn wsX0_whereIs wsX0_setOf := goodIn_r _ [6, 7, 14, 15, 16, 17, 18, 19, 20, 21, 22, 23, 24] (by decide +kernel) (by decide +kernel)
set_option maxRecDepth 20000 in
theorem gX0_whereIs_X0_setOf : GoodIn wsX0_whereIs (wsV RX0 42 RX0 yX0_setOf wsX0_setOf) := goodIn_app (goodIn_of _ (by decide +kernel)) ggX0_whereIs_X0_setOf
set_option maxRecDepth 20000 in
theorem ggX0_whereIs_X0_seatOf : GoodIn wsX0_whereIs wsX0_seatOf := goodIn_r _ [11, 12, 13, 14, 15, 16, 17, 18, 19, 20, 21, 22, 23, 24] (by decide +kernel) (by decide +kernel)
set_option maxRecDepth 20000 in
theorem gX0_whereIs_X0_seatOf : GoodIn wsX0_whereIs (wsV RX0 52 RX0 yX0_seatOf wsX0_seatOf) := goodIn_app (goodIn_of _ (by decide +kernel)) ggX0_whereIs_X0_seatOf
theorem dX0_whereIs_0 : decode cX0_whereIs 0 = .ok (.aload_n 0, 1) := by decide +kernel
theorem dX0_whereIs_1 : decode cX0_whereIs 1 = .ok (.getfield 9, 3) := by decide +kernel
theorem dX0_whereIs_4 : decode cX0_whereIs 4 = .ok (.aload_n 0, 1) := by decide +kernel
theorem dX0_whereIs_5 : decode cX0_whereIs 5 = .ok (.iload_n 1, 1) := by decide +kernel
theorem dX0_whereIs_6 : decode cX0_whereIs 6 = .ok (.invokevirtual 42, 3) := by decide +kernel
theorem dX0_whereIs_9 : decode cX0_whereIs 9 = .ok (.iaload, 1) := by decide +kernel
theorem dX0_whereIs_10 : decode cX0_whereIs 10 = .ok (.iload_n 1, 1) := by decide +kernel
theorem dX0_whereIs_11 : decode cX0_whereIs 11 = .ok (.if_icmp .ne 5, 3) := by decide +kernel
theorem dX0_whereIs_14 : decode cX0_whereIs 14 = .ok (.iconst 1, 1) := by decide +kernel
theorem dX0_whereIs_15 : decode cX0_whereIs 15 = .ok (.ireturn, 1) := by decide +kernel
theorem dX0_whereIs_16 : decode cX0_whereIs 16 = .ok (.aload_n 0, 1) := by decide +kernel
theorem dX0_whereIs_17 : decode cX0_whereIs 17 = .ok (.iload_n 1, 1) := by decide +kernel
theorem dX0_whereIs_18 : decode cX0_whereIs 18 = .ok (.invokevirtual 52, 3) := by decide +kernel
theorem dX0_whereIs_21 : decode cX0_whereIs 21 = .ok (.iconst (-1), 1) := by decide +kernel
theorem dX0_whereIs_22 : decode cX0_whereIs 22 = .ok (.if_icmp .ne 7, 3) := by decide +kernel
theorem dX0_whereIs_25 : decode cX0_whereIs 25 = .ok (.iconst 0, 1) := by decide +kernel
theorem dX0_whereIs_26 : decode cX0_whereIs 26 = .ok (.goto 4, 3) := by decide +kernel
theorem dX0_whereIs_29 : decode cX0_whereIs 29 = .ok (.iconst 2, 1) := by decide +kernel
theorem dX0_whereIs_30 : decode cX0_whereIs 30 = .ok (.ireturn, 1) := by decide +kernel
theorem dX0_setOf_0 : decode cX0_setOf 0 = .ok (.iload_n 1, 1) := by decide +kernel
theorem dX0_setOf_1 : decode cX0_setOf 1 = .ok (.aload_n 0, 1) := by decide +kernel
theorem dX0_setOf_2 : decode cX0_setOf 2 = .ok (.getfield 26, 3) := by decide +kernel
theorem dX0_setOf_5 : decode cX0_setOf 5 = .ok (.iconst 1, 1) := by decide +kernel
theorem dX0_setOf_6 : decode cX0_setOf 6 = .ok (.isub, 1) := by decide +kernel
theorem dX0_setOf_7 : decode cX0_setOf 7 = .ok (.iand, 1) := by decide +kernel
theorem dX0_setOf_8 : decode cX0_setOf 8 = .ok (.ireturn, 1) := by decide +kernel
theorem dX0_seatOf_0 : decode cX0_seatOf 0 = .ok (.iconst 0, 1) := by decide +kernel
theorem dX0_seatOf_1 : decode cX0_seatOf 1 = .ok (.istore_n 2, 1) := by decide +kernel
theorem dX0_seatOf_2 : decode cX0_seatOf 2 = .ok (.iload_n 2, 1) := by decide +kernel
theorem dX0_seatOf_3 : decode cX0_seatOf 3 = .ok (.aload_n 0, 1) := by decide +kernel
theorem dX0_seatOf_4 : decode cX0_seatOf 4 = .ok (.getfield 39, 3) := by decide +kernel
theorem dX0_seatOf_7 : decode cX0_seatOf 7 = .ok (.if_icmp .ge 21, 3) := by decide +kernel
theorem dX0_seatOf_10 : decode cX0_seatOf 10 = .ok (.aload_n 0, 1) := by decide +kernel
theorem dX0_seatOf_11 : decode cX0_seatOf 11 = .ok (.getfield 15, 3) := by decide +kernel
theorem dX0_seatOf_14 : decode cX0_seatOf 14 = .ok (.iload_n 2, 1) := by decide +kernel
theorem dX0_seatOf_15 : decode cX0_seatOf 15 = .ok (.iaload, 1) := by decide +kernel
theorem dX0_seatOf_16 : decode cX0_seatOf 16 = .ok (.iload_n 1, 1) := by decide +kernel
theorem dX0_seatOf_17 : decode cX0_seatOf 17 = .ok (.if_icmp .ne 5, 3) := by decide +kernel
theorem dX0_seatOf_20 : decode cX0_seatOf 20 = .ok (.iload_n 2, 1) := by decide +kernel
theorem dX0_seatOf_21 : decode cX0_seatOf 21 = .ok (.ireturn, 1) := by decide +kernel
theorem dX0_seatOf_22 : decode cX0_seatOf 22 = .ok (.iinc 2 1, 3) := by decide +kernel
theorem dX0_seatOf_25 : decode cX0_seatOf 25 = .ok (.goto (-23), 3) := by decide +kernel
theorem dX0_seatOf_28 : decode cX0_seatOf 28 = .ok (.iconst (-1), 1) := by decide +kernel
theorem dX0_seatOf_29 : decode cX0_seatOf 29 = .ok (.ireturn, 1) := by decide +kernel
theorem dX1_init_0 : decode cX1_init 0 = .ok (.aload_n 0, 1) := by decide +kernel
theorem dX1_init_1 : decode cX1_init 1 = .ok (.invokespecial 3, 3) := by decide +kernel
theorem dX1_init_4 : decode cX1_init 4 = .ok (.aload_n 0, 1) := by decide +kernel
theorem dX1_init_5 : decode cX1_init 5 = .ok (.sipush 150, 3) := by decide +kernel
theorem dX1_init_8 : decode cX1_init 8 = .ok (.newarray .int, 2) := by decide +kernel
theorem dX1_init_10 : decode cX1_init 10 = .ok (.putfield 9, 3) := by decide +kernel
theorem dX1_init_13 : decode cX1_init 13 = .ok (.aload_n 0, 1) := by decide +kernel
theorem dX1_init_14 : decode cX1_init 14 = .ok (.sipush 150, 3) := by decide +kernel
theorem dX1_init_17 : decode cX1_init 17 = .ok (.newarray .boolean, 2) := by decide +kernel
theorem dX1_init_19 : decode cX1_init 19 = .ok (.putfield 15, 3) := by decide +kernel
theorem dX1_init_22 : decode cX1_init 22 = .ok (.return_, 1) := by decide +kernel
theorem dX1_add_0 : decode cX1_add 0 = .ok (.aload_n 0, 1) := by decide +kernel
theorem dX1_add_1 : decode cX1_add 1 = .ok (.getfield 9, 3) := by decide +kernel
theorem dX1_add_4 : decode cX1_add 4 = .ok (.aload_n 0, 1) := by decide +kernel
theorem dX1_add_5 : decode cX1_add 5 = .ok (.getfield 19, 3) := by decide +kernel
theorem dX1_add_8 : decode cX1_add 8 = .ok (.iload_n 1, 1) := by decide +kernel
theorem dX1_add_9 : decode cX1_add 9 = .ok (.iastore, 1) := by decide +kernel
theorem dX1_add_10 : decode cX1_add 10 = .ok (.aload_n 0, 1) := by decide +kernel
theorem dX1_add_11 : decode cX1_add 11 = .ok (.getfield 15, 3) := by decide +kernel
theorem dX1_add_14 : decode cX1_add 14 = .ok (.aload_n 0, 1) := by decide +kernel
theorem dX1_add_15 : decode cX1_add 15 = .ok (.getfield 19, 3) := by decide +kernel
theorem dX1_add_18 : decode cX1_add 18 = .ok (.iload_n 2, 1) := by decide +kernel
theorem dX1_add_19 : decode cX1_add 19 = .ok (.bastore, 1) := by decide +kernel
theorem dX1_add_20 : decode cX1_add 20 = .ok (.aload_n 0, 1) := by decide +kernel
theorem dX1_add_21 : decode cX1_add 21 = .ok (.aload_n 0, 1) := by decide +kernel
theorem dX1_add_22 : decode cX1_add 22 = .ok (.getfield 19, 3) := by decide +kernel
theorem dX1_add_25 : decode cX1_add 25 = .ok (.iconst 1, 1) := by decide +kernel
theorem dX1_add_26 : decode cX1_add 26 = .ok (.iadd, 1) := by decide +kernel
theorem dX1_add_27 : decode cX1_add 27 = .ok (.sipush 150, 3) := by decide +kernel
theorem dX1_add_30 : decode cX1_add 30 = .ok (.if_icmp .ge 12, 3) := by decide +kernel
theorem dX1_add_33 : decode cX1_add 33 = .ok (.aload_n 0, 1) := by decide +kernel
theorem dX1_add_34 : decode cX1_add 34 = .ok (.getfield 19, 3) := by decide +kernel
theorem dX1_add_37 : decode cX1_add 37 = .ok (.iconst 1, 1) := by decide +kernel
theorem dX1_add_38 : decode cX1_add 38 = .ok (.iadd, 1) := by decide +kernel
theorem dX1_add_39 : decode cX1_add 39 = .ok (.goto 4, 3) := by decide +kernel
theorem dX1_add_42 : decode cX1_add 42 = .ok (.iconst 0, 1) := by decide +kernel
theorem dX1_add_43 : decode cX1_add 43 = .ok (.putfield 19, 3) := by decide +kernel
theorem dX1_add_46 : decode cX1_add 46 = .ok (.aload_n 0, 1) := by decide +kernel
theorem dX1_add_47 : decode cX1_add 47 = .ok (.getfield 23, 3) := by decide +kernel
theorem dX1_add_50 : decode cX1_add 50 = .ok (.sipush 150, 3) := by decide +kernel
theorem dX1_add_53 : decode cX1_add 53 = .ok (.if_icmp .ge 13, 3) := by decide +kernel
theorem dX1_add_56 : decode cX1_add 56 = .ok (.aload_n 0, 1) := by decide +kernel
theorem dX1_add_57 : decode cX1_add 57 = .ok (.dup, 1) := by decide +kernel
theorem dX1_add_58 : decode cX1_add 58 = .ok (.getfield 23, 3) := by decide +kernel
theorem dX1_add_61 : decode cX1_add 61 = .ok (.iconst 1, 1) := by decide +kernel
theorem dX1_add_62 : decode cX1_add 62 = .ok (.iadd, 1) := by decide +kernel
theorem dX1_add_63 : decode cX1_add 63 = .ok (.putfield 23, 3) := by decide +kernel
theorem dX1_add_66 : decode cX1_add 66 = .ok (.return_, 1) := by decide +kernel
theorem dX1_slotOf_0 : decode cX1_slotOf 0 = .ok (.aload_n 0, 1) := by decide +kernel
theorem dX1_slotOf_1 : decode cX1_slotOf 1 = .ok (.getfield 23, 3) := by decide +kernel
theorem dX1_slotOf_4 : decode cX1_slotOf 4 = .ok (.sipush 150, 3) := by decide +kernel
theorem dX1_slotOf_7 : decode cX1_slotOf 7 = .ok (.if_icmp .ge 7, 3) := by decide +kernel
theorem dX1_slotOf_10 : decode cX1_slotOf 10 = .ok (.iconst 0, 1) := by decide +kernel
theorem dX1_slotOf_11 : decode cX1_slotOf 11 = .ok (.goto 7, 3) := by decide +kernel
theorem dX1_slotOf_14 : decode cX1_slotOf 14 = .ok (.aload_n 0, 1) := by decide +kernel
theorem dX1_slotOf_15 : decode cX1_slotOf 15 = .ok (.getfield 19, 3) := by decide +kernel
theorem dX1_slotOf_18 : decode cX1_slotOf 18 = .ok (.istore_n 2, 1) := by decide +kernel
theorem dX1_slotOf_19 : decode cX1_slotOf 19 = .ok (.iload_n 2, 1) := by decide +kernel
theorem dX1_slotOf_20 : decode cX1_slotOf 20 = .ok (.iload_n 1, 1) := by decide +kernel
theorem dX1_slotOf_21 : decode cX1_slotOf 21 = .ok (.iadd, 1) := by decide +kernel
theorem dX1_slotOf_22 : decode cX1_slotOf 22 = .ok (.sipush 150, 3) := by decide +kernel
theorem dX1_slotOf_25 : decode cX1_slotOf 25 = .ok (.irem, 1) := by decide +kernel
theorem dX1_slotOf_26 : decode cX1_slotOf 26 = .ok (.ireturn, 1) := by decide +kernel
set_option maxRecDepth 20000 in
theorem ggX2_init_X0_init : GoodIn wsX2_init wsX0_init := goodIn_r _ [18, 19, 2, 3, 4, 20, 21, 22, 23, 24, 25, 26, 9, 27, 28, 29, 30, 31, 32, 33, 34, 45, 46, 47, 48, 49, 50, 51, 52, 53, 54, 55] (by decide +kernel) (by decide +kernel)
set_option maxRecDepth 20000 in
theorem gX2_init_X0_init : GoodIn wsX2_init (wsX0_init) := ggX2_init_X0_init
set_option maxRecDepth 20000 in
theorem ggX2_init_X1_init : GoodIn wsX2_init wsX1_init := goodIn_r _ [36, 37, 2, 3, 4, 38, 22, 39, 56, 57, 58, 59] (by decide +kernel) (by decide +kernel)
set_option maxRecDepth 20000 in
theorem gX2_init_X1_init_n30 : GoodIn wsX2_init (wsX1_init) := ggX2_init_X1_init
theorem dX2_init_0 : decode cX2_init 0 = .ok (.aload_n 0, 1) := by decide +kernel
theorem dX2_init_1 : decode cX2_init 1 = .ok (.invokespecial 3, 3) := by decide +kernel
theorem dX2_init_4 : decode cX2_init 4 = .ok (.aload_n 0, 1) := by decide +kernel
theorem dX2_init_5 : decode cX2_init 5 = .ok (.sipush 1024, 3) := by decide +kernel
theorem dX2_init_8 : decode cX2_init 8 = .ok (.newarray .int, 2) := by decide +kernel
theorem dX2_init_10 : decode cX2_init 10 = .ok (.putfield 9, 3) := by decide +kernel
theorem dX2_init_13 : decode cX2_init 13 = .ok (.aload_n 0, 1) := by decide +kernel
theorem dX2_init_14 : decode cX2_init 14 = .ok (.sipush 1024, 3) := by decide +kernel
theorem dX2_init_17 : decode cX2_init 17 = .ok (.newarray .int, 2) := by decide +kernel
theorem dX2_init_19 : decode cX2_init 19 = .ok (.putfield 13, 3) := by decide +kernel
theorem dX2_init_22 : decode cX2_init 22 = .ok (.aload_n 0, 1) := by decide +kernel
theorem dX2_init_23 : decode cX2_init 23 = .ok (.new 16, 3) := by decide +kernel
theorem dX2_init_26 : decode cX2_init 26 = .ok (.dup, 1) := by decide +kernel
theorem dX2_init_27 : decode cX2_init 27 = .ok (.iconst 4, 1) := by decide +kernel
theorem dX2_init_28 : decode cX2_init 28 = .ok (.iconst 2, 1) := by decide +kernel
theorem dX2_init_29 : decode cX2_init 29 = .ok (.invokespecial 18, 3) := by decide +kernel
theorem dX2_init_32 : decode cX2_init 32 = .ok (.putfield 21, 3) := by decide +kernel
theorem dX2_init_35 : decode cX2_init 35 = .ok (.aload_n 0, 1) := by decide +kernel
theorem dX2_init_36 : decode cX2_init 36 = .ok (.new 16, 3) := by decide +kernel
theorem dX2_init_39 : decode cX2_init 39 = .ok (.dup, 1) := by decide +kernel
theorem dX2_init_40 : decode cX2_init 40 = .ok (.iconst 4, 1) := by decide +kernel
theorem dX2_init_41 : decode cX2_init 41 = .ok (.iconst 2, 1) := by decide +kernel
theorem dX2_init_42 : decode cX2_init 42 = .ok (.invokespecial 18, 3) := by decide +kernel
theorem dX2_init_45 : decode cX2_init 45 = .ok (.putfield 25, 3) := by decide +kernel
theorem dX2_init_48 : decode cX2_init 48 = .ok (.aload_n 0, 1) := by decide +kernel
theorem dX2_init_49 : decode cX2_init 49 = .ok (.new 28, 3) := by decide +kernel
theorem dX2_init_52 : decode cX2_init 52 = .ok (.dup, 1) := by decide +kernel
theorem dX2_init_53 : decode cX2_init 53 = .ok (.invokespecial 30, 3) := by decide +kernel
theorem dX2_init_56 : decode cX2_init 56 = .ok (.putfield 31, 3) := by decide +kernel
theorem dX2_init_59 : decode cX2_init 59 = .ok (.return_, 1) := by decide +kernel
set_option maxRecDepth 20000 in
theorem ggX2_read_X2_requireWord : GoodIn wsX2_read wsX2_requireWord := goodIn_ca (goodIn_r _ [5, 6, 7] (by decide +kernel) (by decide +kernel)) (goodIn_sub (fun _ h => List.mem_cons_of_mem _ (List.mem_append_right _ h)) (by decide +kernel))
set_option maxRecDepth 20000 in
theorem gX2_read_X2_requireWord : GoodIn wsX2_read (va_wsS RX2 35 yX2_requireWord wsX2_requireWord) := goodIn_app (goodIn_of _ (by decide +kernel)) ggX2_read_X2_requireWord
set_option maxRecDepth 20000 in
theorem ggX2_read_X2_lineOf : GoodIn wsX2_read wsX2_lineOf := goodIn_r _ [10] (by decide +kernel) (by decide +kernel)
set_option maxRecDepth 20000 in
theorem gX2_read_X2_lineOf : GoodIn wsX2_read (va_wsS RX2 39 yX2_lineOf wsX2_lineOf) := goodIn_app (goodIn_of _ (by decide +kernel)) ggX2_read_X2_lineOf
set_option maxRecDepth 20000 in
theorem ggX2_read_X2_ask : GoodIn wsX2_read wsX2_ask := goodIn_r _ [14, 15, 16, 17, 18, 19, 20, 21, 22, 23, 24, 25, 26, 27, 28, 29, 30, 31, 32, 33, 34, 35, 36, 37, 38, 39, 40, 41, 42, 43, 44, 45, 46, 47, 48, 49, 50, 51, 52, 53, 54, 55, 56, 57, 58, 59, 60, 61, 62, 63, 64, 65, 66, 67, 68, 69, 70, 71, 72, 73, 74, 75, 76, 77, 78, 79, 80, 81] (by decide +kernel) (by decide +kernel)
set_option maxRecDepth 20000 in
theorem gX2_read_X2_ask : GoodIn wsX2_read (wsV RX2 43 RX2 yX2_ask wsX2_ask) := goodIn_app (goodIn_of _ (by decide +kernel)) ggX2_read_X2_ask
theorem dX2_read_0 : decode cX2_read 0 = .ok (.iload_n 1, 1) := by decide +kernel
theorem dX2_read_1 : decode cX2_read 1 = .ok (.invokestatic 35, 3) := by decide +kernel
theorem dX2_read_4 : decode cX2_read 4 = .ok (.aload_n 0, 1) := by decide +kernel
theorem dX2_read_5 : decode cX2_read 5 = .ok (.iload_n 1, 1) := by decide +kernel
theorem dX2_read_6 : decode cX2_read 6 = .ok (.invokestatic 39, 3) := by decide +kernel
theorem dX2_read_9 : decode cX2_read 9 = .ok (.iconst 0, 1) := by decide +kernel
theorem dX2_read_10 : decode cX2_read 10 = .ok (.invokevirtual 43, 3) := by decide +kernel
theorem dX2_read_13 : decode cX2_read 13 = .ok (.aload_n 0, 1) := by decide +kernel
theorem dX2_read_14 : decode cX2_read 14 = .ok (.getfield 9, 3) := by decide +kernel
theorem dX2_read_17 : decode cX2_read 17 = .ok (.iload_n 1, 1) := by decide +kernel
theorem dX2_read_18 : decode cX2_read 18 = .ok (.iaload, 1) := by decide +kernel
theorem dX2_read_19 : decode cX2_read 19 = .ok (.ireturn, 1) := by decide +kernel
set_option maxRecDepth 20000 in
theorem ggX2_write_X2_requireWord : GoodIn wsX2_write wsX2_requireWord := goodIn_ca (goodIn_r _ [7, 8, 9] (by decide +kernel) (by decide +kernel)) (goodIn_sub (fun _ h => List.mem_cons_of_mem _ (List.mem_append_right _ h)) (by decide +kernel))
set_option maxRecDepth 20000 in
theorem gX2_write_X2_requireWord : GoodIn wsX2_write (va_wsS RX2 35 yX2_requireWord wsX2_requireWord) := goodIn_app (goodIn_of _ (by decide +kernel)) ggX2_write_X2_requireWord
set_option maxRecDepth 20000 in
theorem ggX2_write_X2_lineOf : GoodIn wsX2_write wsX2_lineOf := goodIn_r _ [12] (by decide +kernel) (by decide +kernel)
set_option maxRecDepth 20000 in
theorem gX2_write_X2_lineOf : GoodIn wsX2_write (va_wsS RX2 39 yX2_lineOf wsX2_lineOf) := goodIn_app (goodIn_of _ (by decide +kernel)) ggX2_write_X2_lineOf
set_option maxRecDepth 20000 in
theorem ggX2_write_X2_keepHomeWords : GoodIn wsX2_write wsX2_keepHomeWords := goodIn_r _ [16, 3, 17, 18, 19, 20, 21, 72, 73, 74, 75, 76] (by decide +kernel) (by decide +kernel)
set_option maxRecDepth 20000 in
theorem gX2_write_X2_keepHomeWords : GoodIn wsX2_write (wsV RX2 51 RX2 yX2_keepHomeWords wsX2_keepHomeWords) := goodIn_app (goodIn_of _ (by decide +kernel)) ggX2_write_X2_keepHomeWords
set_option maxRecDepth 20000 in
theorem ggX2_write_X2_ask : GoodIn wsX2_write wsX2_ask := goodIn_r _ [25, 1, 26, 27, 28, 29, 30, 31, 32, 33, 34, 35, 36, 37, 38, 39, 40, 41, 42, 43, 44, 45, 46, 47, 48, 49, 50, 51, 52, 53, 54, 55, 56, 57, 58, 59, 60, 61, 62, 63, 64, 65, 66, 67, 68, 69, 70, 71, 72, 73, 74, 75, 76, 77, 78, 79, 80, 81, 82, 83, 84, 85, 86, 87, 88, 89, 90, 91] (by decide +kernel) (by decide +kernel)
set_option maxRecDepth 20000 in
theorem gX2_write_X2_ask : GoodIn wsX2_write (wsV RX2 43 RX2 yX2_ask wsX2_ask) := goodIn_app (goodIn_of _ (by decide +kernel)) ggX2_write_X2_ask
theorem dX2_write_0 : decode cX2_write 0 = .ok (.iload_n 1, 1) := by decide +kernel
theorem dX2_write_1 : decode cX2_write 1 = .ok (.invokestatic 35, 3) := by decide +kernel
theorem dX2_write_4 : decode cX2_write 4 = .ok (.iload_n 1, 1) := by decide +kernel
theorem dX2_write_5 : decode cX2_write 5 = .ok (.invokestatic 39, 3) := by decide +kernel
theorem dX2_write_8 : decode cX2_write 8 = .ok (.istore_n 3, 1) := by decide +kernel
theorem dX2_write_9 : decode cX2_write 9 = .ok (.aload_n 0, 1) := by decide +kernel
theorem dX2_write_10 : decode cX2_write 10 = .ok (.getfield 21, 3) := by decide +kernel
theorem dX2_write_13 : decode cX2_write 13 = .ok (.getfield 47, 3) := by decide +kernel
theorem dX2_write_16 : decode cX2_write 16 = .ok (.iload_n 3, 1) := by decide +kernel
theorem dX2_write_17 : decode cX2_write 17 = .ok (.baload, 1) := by decide +kernel
theorem dX2_write_18 : decode cX2_write 18 = .ok (.ifCond .ne 8, 3) := by decide +kernel
theorem dX2_write_21 : decode cX2_write 21 = .ok (.aload_n 0, 1) := by decide +kernel
theorem dX2_write_22 : decode cX2_write 22 = .ok (.iload_n 3, 1) := by decide +kernel
theorem dX2_write_23 : decode cX2_write 23 = .ok (.invokevirtual 51, 3) := by decide +kernel
theorem dX2_write_26 : decode cX2_write 26 = .ok (.aload_n 0, 1) := by decide +kernel
theorem dX2_write_27 : decode cX2_write 27 = .ok (.iload_n 3, 1) := by decide +kernel
theorem dX2_write_28 : decode cX2_write 28 = .ok (.iconst 1, 1) := by decide +kernel
theorem dX2_write_29 : decode cX2_write 29 = .ok (.invokevirtual 43, 3) := by decide +kernel
theorem dX2_write_32 : decode cX2_write 32 = .ok (.aload_n 0, 1) := by decide +kernel
theorem dX2_write_33 : decode cX2_write 33 = .ok (.getfield 9, 3) := by decide +kernel
theorem dX2_write_36 : decode cX2_write 36 = .ok (.iload_n 1, 1) := by decide +kernel
theorem dX2_write_37 : decode cX2_write 37 = .ok (.iaload, 1) := by decide +kernel
theorem dX2_write_38 : decode cX2_write 38 = .ok (.istore 4, 2) := by decide +kernel
theorem dX2_write_40 : decode cX2_write 40 = .ok (.aload_n 0, 1) := by decide +kernel
theorem dX2_write_41 : decode cX2_write 41 = .ok (.getfield 9, 3) := by decide +kernel
theorem dX2_write_44 : decode cX2_write 44 = .ok (.iload_n 1, 1) := by decide +kernel
theorem dX2_write_45 : decode cX2_write 45 = .ok (.iload_n 2, 1) := by decide +kernel
theorem dX2_write_46 : decode cX2_write 46 = .ok (.iastore, 1) := by decide +kernel
theorem dX2_write_47 : decode cX2_write 47 = .ok (.iload 4, 2) := by decide +kernel
theorem dX2_write_49 : decode cX2_write 49 = .ok (.ireturn, 1) := by decide +kernel
set_option maxRecDepth 20000 in
theorem ggX2_walk_X2_requireWord : GoodIn wsX2_walk wsX2_requireWord := goodIn_ca (goodIn_r _ [8, 9, 10] (by decide +kernel) (by decide +kernel)) (goodIn_sub (fun _ h => List.mem_cons_of_mem _ (List.mem_append_right _ h)) (by decide +kernel))
set_option maxRecDepth 20000 in
theorem gX2_walk_X2_requireWord : GoodIn wsX2_walk (va_wsS RX2 35 yX2_requireWord wsX2_requireWord) := goodIn_app (goodIn_of _ (by decide +kernel)) ggX2_walk_X2_requireWord
set_option maxRecDepth 20000 in
theorem ggX2_walk_X2_lineOf : GoodIn wsX2_walk wsX2_lineOf := goodIn_r _ [13] (by decide +kernel) (by decide +kernel)
set_option maxRecDepth 20000 in
theorem gX2_walk_X2_lineOf : GoodIn wsX2_walk (va_wsS RX2 39 yX2_lineOf wsX2_lineOf) := goodIn_app (goodIn_of _ (by decide +kernel)) ggX2_walk_X2_lineOf
set_option maxRecDepth 20000 in
theorem ggX2_walk_X2_ask : GoodIn wsX2_walk wsX2_ask := goodIn_r _ [17, 3, 18, 19, 20, 21, 22, 23, 24, 25, 26, 27, 28, 29, 30, 31, 32, 33, 34, 35, 36, 37, 38, 39, 40, 41, 42, 43, 44, 45, 46, 47, 48, 49, 50, 51, 52, 53, 54, 55, 56, 57, 58, 59, 60, 61, 62, 63, 68, 69, 70, 71, 72, 73, 74, 75, 76, 77, 78, 79, 80, 81, 82, 83, 84, 85, 86, 87] (by decide +kernel) (by decide +kernel)
set_option maxRecDepth 20000 in
theorem gX2_walk_X2_ask : GoodIn wsX2_walk (wsV RX2 43 RX2 yX2_ask wsX2_ask) := goodIn_app (goodIn_of _ (by decide +kernel)) ggX2_walk_X2_ask
set_option maxRecDepth 20000 in
theorem ggX2_walk_J9_floorMod_7cf53 : GoodIn wsX2_walk wsJ9_floorMod_7cf53 := goodIn_r _ [67] (by decide +kernel) (by decide +kernel)
set_option maxRecDepth 20000 in
theorem gX2_walk_J9_floorMod_7cf53 : GoodIn wsX2_walk (va_wsS RX2 65 yJ9_floorMod_7cf53 wsJ9_floorMod_7cf53) := goodIn_app (goodIn_of _ (by decide +kernel)) ggX2_walk_J9_floorMod_7cf53
theorem dX2_walk_0 : decode cX2_walk 0 = .ok (.iload_n 1, 1) := by decide +kernel
theorem dX2_walk_1 : decode cX2_walk 1 = .ok (.invokestatic 35, 3) := by decide +kernel
theorem dX2_walk_4 : decode cX2_walk 4 = .ok (.iload_n 2, 1) := by decide +kernel
theorem dX2_walk_5 : decode cX2_walk 5 = .ok (.bipush (-64), 2) := by decide +kernel
theorem dX2_walk_7 : decode cX2_walk 7 = .ok (.if_icmp .lt 20, 3) := by decide +kernel
theorem dX2_walk_10 : decode cX2_walk 10 = .ok (.iload_n 2, 1) := by decide +kernel
theorem dX2_walk_11 : decode cX2_walk 11 = .ok (.bipush 64, 2) := by decide +kernel
theorem dX2_walk_13 : decode cX2_walk 13 = .ok (.if_icmp .gt 14, 3) := by decide +kernel
theorem dX2_walk_16 : decode cX2_walk 16 = .ok (.iload_n 3, 1) := by decide +kernel
theorem dX2_walk_17 : decode cX2_walk 17 = .ok (.iconst 1, 1) := by decide +kernel
theorem dX2_walk_18 : decode cX2_walk 18 = .ok (.if_icmp .lt 9, 3) := by decide +kernel
theorem dX2_walk_21 : decode cX2_walk 21 = .ok (.iload_n 3, 1) := by decide +kernel
theorem dX2_walk_22 : decode cX2_walk 22 = .ok (.bipush 100, 2) := by decide +kernel
theorem dX2_walk_24 : decode cX2_walk 24 = .ok (.if_icmp .le 13, 3) := by decide +kernel
theorem dX2_walk_27 : decode cX2_walk 27 = .ok (.new 54, 3) := by decide +kernel
theorem dX2_walk_30 : decode cX2_walk 30 = .ok (.dup, 1) := by decide +kernel
theorem dX2_walk_31 : decode cX2_walk 31 = .ok (.ldc 56, 2) := by decide +kernel
theorem dX2_walk_33 : decode cX2_walk 33 = .ok (.invokespecial 58, 3) := by decide +kernel
theorem dX2_walk_36 : decode cX2_walk 36 = .ok (.athrow, 1) := by decide +kernel
theorem dX2_walk_37 : decode cX2_walk 37 = .ok (.aload_n 0, 1) := by decide +kernel
theorem dX2_walk_38 : decode cX2_walk 38 = .ok (.getfield 21, 3) := by decide +kernel
theorem dX2_walk_41 : decode cX2_walk 41 = .ok (.getfield 61, 3) := by decide +kernel
theorem dX2_walk_44 : decode cX2_walk 44 = .ok (.istore 4, 2) := by decide +kernel
theorem dX2_walk_46 : decode cX2_walk 46 = .ok (.iload_n 1, 1) := by decide +kernel
theorem dX2_walk_47 : decode cX2_walk 47 = .ok (.istore 5, 2) := by decide +kernel
theorem dX2_walk_49 : decode cX2_walk 49 = .ok (.iconst 0, 1) := by decide +kernel
theorem dX2_walk_50 : decode cX2_walk 50 = .ok (.istore 6, 2) := by decide +kernel
theorem dX2_walk_52 : decode cX2_walk 52 = .ok (.iload 6, 2) := by decide +kernel
theorem dX2_walk_54 : decode cX2_walk 54 = .ok (.iload_n 3, 1) := by decide +kernel
theorem dX2_walk_55 : decode cX2_walk 55 = .ok (.if_icmp .ge 31, 3) := by decide +kernel
theorem dX2_walk_58 : decode cX2_walk 58 = .ok (.aload_n 0, 1) := by decide +kernel
theorem dX2_walk_59 : decode cX2_walk 59 = .ok (.iload 5, 2) := by decide +kernel
theorem dX2_walk_61 : decode cX2_walk 61 = .ok (.invokestatic 39, 3) := by decide +kernel
theorem dX2_walk_64 : decode cX2_walk 64 = .ok (.iconst 0, 1) := by decide +kernel
theorem dX2_walk_65 : decode cX2_walk 65 = .ok (.invokevirtual 43, 3) := by decide +kernel
theorem dX2_walk_68 : decode cX2_walk 68 = .ok (.iload 5, 2) := by decide +kernel
theorem dX2_walk_70 : decode cX2_walk 70 = .ok (.iload_n 2, 1) := by decide +kernel
theorem dX2_walk_71 : decode cX2_walk 71 = .ok (.iadd, 1) := by decide +kernel
theorem dX2_walk_72 : decode cX2_walk 72 = .ok (.sipush 1024, 3) := by decide +kernel
theorem dX2_walk_75 : decode cX2_walk 75 = .ok (.invokestatic 65, 3) := by decide +kernel
theorem dX2_walk_78 : decode cX2_walk 78 = .ok (.istore 5, 2) := by decide +kernel
theorem dX2_walk_80 : decode cX2_walk 80 = .ok (.iinc 6 1, 3) := by decide +kernel
theorem dX2_walk_83 : decode cX2_walk 83 = .ok (.goto (-31), 3) := by decide +kernel
theorem dX2_walk_86 : decode cX2_walk 86 = .ok (.aload_n 0, 1) := by decide +kernel
theorem dX2_walk_87 : decode cX2_walk 87 = .ok (.getfield 21, 3) := by decide +kernel
theorem dX2_walk_90 : decode cX2_walk 90 = .ok (.getfield 61, 3) := by decide +kernel
theorem dX2_walk_93 : decode cX2_walk 93 = .ok (.iload 4, 2) := by decide +kernel
theorem dX2_walk_95 : decode cX2_walk 95 = .ok (.isub, 1) := by decide +kernel
theorem dX2_walk_96 : decode cX2_walk 96 = .ok (.ireturn, 1) := by decide +kernel
set_option maxRecDepth 20000 in
theorem ggX2_bringHome_X0_bringAllHome : GoodIn wsX2_bringHome wsX0_bringAllHome := goodIn_r _ [6, 7, 8, 9, 10, 11, 12, 13, 14, 5, 15, 16, 17, 23, 24, 25, 26, 27, 28, 29, 30, 31, 32, 33] (by decide +kernel) (by decide +kernel)
set_option maxRecDepth 20000 in
theorem gX2_bringHome_X0_bringAllHome : GoodIn wsX2_bringHome (wsV RX2 71 RX0 yX0_bringAllHome wsX0_bringAllHome) := goodIn_app (goodIn_of _ (by decide +kernel)) ggX2_bringHome_X0_bringAllHome
theorem dX2_bringHome_0 : decode cX2_bringHome 0 = .ok (.aload_n 0, 1) := by decide +kernel
theorem dX2_bringHome_1 : decode cX2_bringHome 1 = .ok (.getfield 21, 3) := by decide +kernel
theorem dX2_bringHome_4 : decode cX2_bringHome 4 = .ok (.invokevirtual 71, 3) := by decide +kernel
theorem dX2_bringHome_7 : decode cX2_bringHome 7 = .ok (.ireturn, 1) := by decide +kernel
set_option maxRecDepth 20000 in
theorem ggX2_build_X2_requireSize : GoodIn wsX2_build wsX2_requireSize := goodIn_ca (goodIn_r _ [5, 6, 7] (by decide +kernel) (by decide +kernel)) (goodIn_sub (fun _ h => List.mem_cons_of_mem _ (List.mem_append_right _ h)) (by decide +kernel))
set_option maxRecDepth 20000 in
theorem gX2_build_X2_requireSize : GoodIn wsX2_build (va_wsS RX2 75 yX2_requireSize wsX2_requireSize) := goodIn_app (goodIn_of _ (by decide +kernel)) ggX2_build_X2_requireSize
set_option maxRecDepth 20000 in
theorem ggX2_build_X0_countLines : GoodIn wsX2_build wsX0_countLines := goodIn_r _ [12, 13, 14, 15, 42, 43, 44, 45, 46, 47, 48, 49, 50, 51, 52] (by decide +kernel) (by decide +kernel)
set_option maxRecDepth 20000 in
theorem gX2_build_X0_countLines : GoodIn wsX2_build (wsV RX2 78 RX0 yX0_countLines wsX0_countLines) := goodIn_app (goodIn_of _ (by decide +kernel)) ggX2_build_X0_countLines
set_option maxRecDepth 20000 in
theorem ggX2_build_X0_bringAllHome : GoodIn wsX2_build wsX0_bringAllHome := goodIn_r _ [19, 20, 14, 15, 13, 21, 22, 23, 24, 11, 25, 26, 27, 42, 43, 44, 45, 46, 47, 48, 49, 50, 51, 52] (by decide +kernel) (by decide +kernel)
set_option maxRecDepth 20000 in
theorem gX2_build_X0_bringAllHome : GoodIn wsX2_build (wsV RX2 71 RX0 yX0_bringAllHome wsX0_bringAllHome) := goodIn_app (goodIn_of _ (by decide +kernel)) ggX2_build_X0_bringAllHome
set_option maxRecDepth 20000 in
theorem ggX2_build_X0_startEmpty : GoodIn wsX2_build wsX0_startEmpty := goodIn_r _ [31, 14, 32, 15, 13, 26, 33, 34, 35, 36, 42, 43, 44, 45, 46, 47, 48, 49, 50, 51, 52] (by decide +kernel) (by decide +kernel)
set_option maxRecDepth 20000 in
theorem gX2_build_X0_startEmpty : GoodIn wsX2_build (wsV RX2 81 RX0 yX0_startEmpty wsX0_startEmpty) := goodIn_app (goodIn_of _ (by decide +kernel)) ggX2_build_X0_startEmpty
theorem dX2_build_0 : decode cX2_build 0 = .ok (.iload_n 1, 1) := by decide +kernel
theorem dX2_build_1 : decode cX2_build 1 = .ok (.iload_n 2, 1) := by decide +kernel
theorem dX2_build_2 : decode cX2_build 2 = .ok (.invokestatic 75, 3) := by decide +kernel
theorem dX2_build_5 : decode cX2_build 5 = .ok (.aload_n 0, 1) := by decide +kernel
theorem dX2_build_6 : decode cX2_build 6 = .ok (.getfield 21, 3) := by decide +kernel
theorem dX2_build_9 : decode cX2_build 9 = .ok (.invokevirtual 78, 3) := by decide +kernel
theorem dX2_build_12 : decode cX2_build 12 = .ok (.istore_n 3, 1) := by decide +kernel
theorem dX2_build_13 : decode cX2_build 13 = .ok (.aload_n 0, 1) := by decide +kernel
theorem dX2_build_14 : decode cX2_build 14 = .ok (.getfield 21, 3) := by decide +kernel
theorem dX2_build_17 : decode cX2_build 17 = .ok (.invokevirtual 71, 3) := by decide +kernel
theorem dX2_build_20 : decode cX2_build 20 = .ok (.pop, 1) := by decide +kernel
theorem dX2_build_21 : decode cX2_build 21 = .ok (.aload_n 0, 1) := by decide +kernel
theorem dX2_build_22 : decode cX2_build 22 = .ok (.getfield 21, 3) := by decide +kernel
theorem dX2_build_25 : decode cX2_build 25 = .ok (.iload_n 1, 1) := by decide +kernel
theorem dX2_build_26 : decode cX2_build 26 = .ok (.iload_n 2, 1) := by decide +kernel
theorem dX2_build_27 : decode cX2_build 27 = .ok (.invokevirtual 81, 3) := by decide +kernel
theorem dX2_build_30 : decode cX2_build 30 = .ok (.iload_n 3, 1) := by decide +kernel
theorem dX2_build_31 : decode cX2_build 31 = .ok (.ireturn, 1) := by decide +kernel
set_option maxRecDepth 20000 in
theorem ggX2_cast_X2_requireSet : GoodIn wsX2_cast wsX2_requireSet := goodIn_ca (goodIn_r _ [9, 10, 11, 3, 12, 33, 34, 35, 36, 37, 38, 39, 40, 41, 42, 43, 44, 45, 46, 47, 48] (by decide +kernel) (by decide +kernel)) (goodIn_sub (fun _ h => List.mem_cons_of_mem _ (List.mem_append_right _ h)) (by decide +kernel))
set_option maxRecDepth 20000 in
theorem gX2_cast_X2_requireSet : GoodIn wsX2_cast (wsV RX2 84 RX2 yX2_requireSet wsX2_requireSet) := goodIn_app (goodIn_of _ (by decide +kernel)) ggX2_cast_X2_requireSet
set_option maxRecDepth 20000 in
theorem ggX2_cast_X0_throwOut : GoodIn wsX2_cast wsX0_throwOut := goodIn_r _ [17, 18, 19, 20, 21, 22, 23, 24, 16, 25, 26, 27, 28, 29, 30, 31, 32, 38, 39, 40, 41, 42, 43, 44, 45, 46, 47, 48] (by decide +kernel) (by decide +kernel)
set_option maxRecDepth 20000 in
theorem gX2_cast_X0_throwOut : GoodIn wsX2_cast (wsV RX2 95 RX0 yX0_throwOut wsX0_throwOut) := goodIn_app (goodIn_of _ (by decide +kernel)) ggX2_cast_X0_throwOut
theorem dX2_cast_0 : decode cX2_cast 0 = .ok (.aload_n 0, 1) := by decide +kernel
theorem dX2_cast_1 : decode cX2_cast 1 = .ok (.iload_n 1, 1) := by decide +kernel
theorem dX2_cast_2 : decode cX2_cast 2 = .ok (.invokevirtual 84, 3) := by decide +kernel
theorem dX2_cast_5 : decode cX2_cast 5 = .ok (.aload_n 0, 1) := by decide +kernel
theorem dX2_cast_6 : decode cX2_cast 6 = .ok (.getfield 21, 3) := by decide +kernel
theorem dX2_cast_9 : decode cX2_cast 9 = .ok (.getfield 87, 3) := by decide +kernel
theorem dX2_cast_12 : decode cX2_cast 12 = .ok (.iload_n 1, 1) := by decide +kernel
theorem dX2_cast_13 : decode cX2_cast 13 = .ok (.iaload, 1) := by decide +kernel
theorem dX2_cast_14 : decode cX2_cast 14 = .ok (.istore_n 2, 1) := by decide +kernel
theorem dX2_cast_15 : decode cX2_cast 15 = .ok (.iload_n 2, 1) := by decide +kernel
theorem dX2_cast_16 : decode cX2_cast 16 = .ok (.iconst (-1), 1) := by decide +kernel
theorem dX2_cast_17 : decode cX2_cast 17 = .ok (.if_icmp .ne 13, 3) := by decide +kernel
theorem dX2_cast_20 : decode cX2_cast 20 = .ok (.new 90, 3) := by decide +kernel
theorem dX2_cast_23 : decode cX2_cast 23 = .ok (.dup, 1) := by decide +kernel
theorem dX2_cast_24 : decode cX2_cast 24 = .ok (.ldc 92, 2) := by decide +kernel
theorem dX2_cast_26 : decode cX2_cast 26 = .ok (.invokespecial 94, 3) := by decide +kernel
theorem dX2_cast_29 : decode cX2_cast 29 = .ok (.athrow, 1) := by decide +kernel
theorem dX2_cast_30 : decode cX2_cast 30 = .ok (.aload_n 0, 1) := by decide +kernel
theorem dX2_cast_31 : decode cX2_cast 31 = .ok (.getfield 21, 3) := by decide +kernel
theorem dX2_cast_34 : decode cX2_cast 34 = .ok (.iload_n 1, 1) := by decide +kernel
theorem dX2_cast_35 : decode cX2_cast 35 = .ok (.invokevirtual 95, 3) := by decide +kernel
theorem dX2_cast_38 : decode cX2_cast 38 = .ok (.iload_n 2, 1) := by decide +kernel
theorem dX2_cast_39 : decode cX2_cast 39 = .ok (.ireturn, 1) := by decide +kernel
theorem dX2_sets_0 : decode cX2_sets 0 = .ok (.aload_n 0, 1) := by decide +kernel
theorem dX2_sets_1 : decode cX2_sets 1 = .ok (.getfield 21, 3) := by decide +kernel
theorem dX2_sets_4 : decode cX2_sets 4 = .ok (.getfield 98, 3) := by decide +kernel
theorem dX2_sets_7 : decode cX2_sets 7 = .ok (.ireturn, 1) := by decide +kernel
theorem dX2_places_0 : decode cX2_places 0 = .ok (.aload_n 0, 1) := by decide +kernel
theorem dX2_places_1 : decode cX2_places 1 = .ok (.getfield 21, 3) := by decide +kernel
theorem dX2_places_4 : decode cX2_places 4 = .ok (.getfield 101, 3) := by decide +kernel
theorem dX2_places_7 : decode cX2_places 7 = .ok (.ireturn, 1) := by decide +kernel
set_option maxRecDepth 20000 in
theorem ggX2_lineIn_X2_requireSet : GoodIn wsX2_lineIn wsX2_requireSet := goodIn_ca (goodIn_r _ [7, 8, 9, 1, 10, 11, 12, 13, 14, 15, 16, 17, 18, 19, 20, 21, 22, 23, 24, 25, 26] (by decide +kernel) (by decide +kernel)) (goodIn_sub (fun _ h => List.mem_cons_of_mem _ (List.mem_append_right _ h)) (by decide +kernel))
set_option maxRecDepth 20000 in
theorem gX2_lineIn_X2_requireSet : GoodIn wsX2_lineIn (wsV RX2 84 RX2 yX2_requireSet wsX2_requireSet) := goodIn_app (goodIn_of _ (by decide +kernel)) ggX2_lineIn_X2_requireSet
theorem dX2_lineIn_0 : decode cX2_lineIn 0 = .ok (.aload_n 0, 1) := by decide +kernel
theorem dX2_lineIn_1 : decode cX2_lineIn 1 = .ok (.iload_n 1, 1) := by decide +kernel
theorem dX2_lineIn_2 : decode cX2_lineIn 2 = .ok (.invokevirtual 84, 3) := by decide +kernel
theorem dX2_lineIn_5 : decode cX2_lineIn 5 = .ok (.aload_n 0, 1) := by decide +kernel
theorem dX2_lineIn_6 : decode cX2_lineIn 6 = .ok (.getfield 21, 3) := by decide +kernel
theorem dX2_lineIn_9 : decode cX2_lineIn 9 = .ok (.getfield 87, 3) := by decide +kernel
theorem dX2_lineIn_12 : decode cX2_lineIn 12 = .ok (.iload_n 1, 1) := by decide +kernel
theorem dX2_lineIn_13 : decode cX2_lineIn 13 = .ok (.iaload, 1) := by decide +kernel
theorem dX2_lineIn_14 : decode cX2_lineIn 14 = .ok (.ireturn, 1) := by decide +kernel
theorem dX2_sitting_0 : decode cX2_sitting 0 = .ok (.aload_n 0, 1) := by decide +kernel
theorem dX2_sitting_1 : decode cX2_sitting 1 = .ok (.getfield 21, 3) := by decide +kernel
theorem dX2_sitting_4 : decode cX2_sitting 4 = .ok (.getfield 104, 3) := by decide +kernel
theorem dX2_sitting_7 : decode cX2_sitting 7 = .ok (.ireturn, 1) := by decide +kernel
theorem dX2_lineOnBench_0 : decode cX2_lineOnBench 0 = .ok (.iload_n 1, 1) := by decide +kernel
theorem dX2_lineOnBench_1 : decode cX2_lineOnBench 1 = .ok (.ifCond .lt 14, 3) := by decide +kernel
theorem dX2_lineOnBench_4 : decode cX2_lineOnBench 4 = .ok (.iload_n 1, 1) := by decide +kernel
theorem dX2_lineOnBench_5 : decode cX2_lineOnBench 5 = .ok (.aload_n 0, 1) := by decide +kernel
theorem dX2_lineOnBench_6 : decode cX2_lineOnBench 6 = .ok (.getfield 21, 3) := by decide +kernel
theorem dX2_lineOnBench_9 : decode cX2_lineOnBench 9 = .ok (.getfield 104, 3) := by decide +kernel
theorem dX2_lineOnBench_12 : decode cX2_lineOnBench 12 = .ok (.if_icmp .lt 13, 3) := by decide +kernel
theorem dX2_lineOnBench_15 : decode cX2_lineOnBench 15 = .ok (.new 107, 3) := by decide +kernel
theorem dX2_lineOnBench_18 : decode cX2_lineOnBench 18 = .ok (.dup, 1) := by decide +kernel
theorem dX2_lineOnBench_19 : decode cX2_lineOnBench 19 = .ok (.ldc 109, 2) := by decide +kernel
theorem dX2_lineOnBench_21 : decode cX2_lineOnBench 21 = .ok (.invokespecial 111, 3) := by decide +kernel
theorem dX2_lineOnBench_24 : decode cX2_lineOnBench 24 = .ok (.athrow, 1) := by decide +kernel
theorem dX2_lineOnBench_25 : decode cX2_lineOnBench 25 = .ok (.aload_n 0, 1) := by decide +kernel
theorem dX2_lineOnBench_26 : decode cX2_lineOnBench 26 = .ok (.getfield 21, 3) := by decide +kernel
theorem dX2_lineOnBench_29 : decode cX2_lineOnBench 29 = .ok (.getfield 112, 3) := by decide +kernel
theorem dX2_lineOnBench_32 : decode cX2_lineOnBench 32 = .ok (.aload_n 0, 1) := by decide +kernel
theorem dX2_lineOnBench_33 : decode cX2_lineOnBench 33 = .ok (.getfield 21, 3) := by decide +kernel
theorem dX2_lineOnBench_36 : decode cX2_lineOnBench 36 = .ok (.getfield 104, 3) := by decide +kernel
theorem dX2_lineOnBench_39 : decode cX2_lineOnBench 39 = .ok (.iconst 1, 1) := by decide +kernel
theorem dX2_lineOnBench_40 : decode cX2_lineOnBench 40 = .ok (.isub, 1) := by decide +kernel
theorem dX2_lineOnBench_41 : decode cX2_lineOnBench 41 = .ok (.iload_n 1, 1) := by decide +kernel
theorem dX2_lineOnBench_42 : decode cX2_lineOnBench 42 = .ok (.isub, 1) := by decide +kernel
theorem dX2_lineOnBench_43 : decode cX2_lineOnBench 43 = .ok (.iaload, 1) := by decide +kernel
theorem dX2_lineOnBench_44 : decode cX2_lineOnBench 44 = .ok (.ireturn, 1) := by decide +kernel
set_option maxRecDepth 20000 in
theorem ggX2_placeOf_X2_requireLine : GoodIn wsX2_placeOf wsX2_requireLine := goodIn_ca (goodIn_r _ [5, 6, 7] (by decide +kernel) (by decide +kernel)) (goodIn_sub (fun _ h => List.mem_cons_of_mem _ (List.mem_append_right _ h)) (by decide +kernel))
set_option maxRecDepth 20000 in
theorem gX2_placeOf_X2_requireLine : GoodIn wsX2_placeOf (va_wsS RX2 115 yX2_requireLine wsX2_requireLine) := goodIn_app (goodIn_of _ (by decide +kernel)) ggX2_placeOf_X2_requireLine
set_option maxRecDepth 20000 in
theorem ggX2_placeOf_X0_whereIs : GoodIn wsX2_placeOf wsX0_whereIs := goodIn_r _ [12, 13, 14, 15, 16, 11, 17, 18, 19, 20, 21, 22, 23, 24, 30, 31, 32, 33, 34, 35, 36, 37, 38, 39, 40] (by decide +kernel) (by decide +kernel)
set_option maxRecDepth 20000 in
theorem gX2_placeOf_X0_whereIs : GoodIn wsX2_placeOf (wsV RX2 118 RX0 yX0_whereIs wsX0_whereIs) := goodIn_app (goodIn_of _ (by decide +kernel)) ggX2_placeOf_X0_whereIs
theorem dX2_placeOf_0 : decode cX2_placeOf 0 = .ok (.iload_n 1, 1) := by decide +kernel
theorem dX2_placeOf_1 : decode cX2_placeOf 1 = .ok (.invokestatic 115, 3) := by decide +kernel
theorem dX2_placeOf_4 : decode cX2_placeOf 4 = .ok (.aload_n 0, 1) := by decide +kernel
theorem dX2_placeOf_5 : decode cX2_placeOf 5 = .ok (.getfield 21, 3) := by decide +kernel
theorem dX2_placeOf_8 : decode cX2_placeOf 8 = .ok (.iload_n 1, 1) := by decide +kernel
theorem dX2_placeOf_9 : decode cX2_placeOf 9 = .ok (.invokevirtual 118, 3) := by decide +kernel
theorem dX2_placeOf_12 : decode cX2_placeOf 12 = .ok (.ireturn, 1) := by decide +kernel
set_option maxRecDepth 20000 in
theorem ggX2_isDirty_X2_requireLine : GoodIn wsX2_isDirty wsX2_requireLine := goodIn_ca (goodIn_r _ [6, 7, 8] (by decide +kernel) (by decide +kernel)) (goodIn_sub (fun _ h => List.mem_cons_of_mem _ (List.mem_append_right _ h)) (by decide +kernel))
set_option maxRecDepth 20000 in
theorem gX2_isDirty_X2_requireLine : GoodIn wsX2_isDirty (va_wsS RX2 115 yX2_requireLine wsX2_requireLine) := goodIn_app (goodIn_of _ (by decide +kernel)) ggX2_isDirty_X2_requireLine
theorem dX2_isDirty_0 : decode cX2_isDirty 0 = .ok (.iload_n 1, 1) := by decide +kernel
theorem dX2_isDirty_1 : decode cX2_isDirty 1 = .ok (.invokestatic 115, 3) := by decide +kernel
theorem dX2_isDirty_4 : decode cX2_isDirty 4 = .ok (.aload_n 0, 1) := by decide +kernel
theorem dX2_isDirty_5 : decode cX2_isDirty 5 = .ok (.getfield 21, 3) := by decide +kernel
theorem dX2_isDirty_8 : decode cX2_isDirty 8 = .ok (.getfield 47, 3) := by decide +kernel
theorem dX2_isDirty_11 : decode cX2_isDirty 11 = .ok (.iload_n 1, 1) := by decide +kernel
theorem dX2_isDirty_12 : decode cX2_isDirty 12 = .ok (.baload, 1) := by decide +kernel
theorem dX2_isDirty_13 : decode cX2_isDirty 13 = .ok (.ireturn, 1) := by decide +kernel
set_option maxRecDepth 20000 in
theorem ggX2_dirty_X0_countDirty : GoodIn wsX2_dirty wsX0_countDirty := goodIn_r _ [6, 7, 13, 14, 15, 16, 17, 18, 19, 20, 21, 22, 23] (by decide +kernel) (by decide +kernel)
set_option maxRecDepth 20000 in
theorem gX2_dirty_X0_countDirty : GoodIn wsX2_dirty (wsV RX2 121 RX0 yX0_countDirty wsX0_countDirty) := goodIn_app (goodIn_of _ (by decide +kernel)) ggX2_dirty_X0_countDirty
theorem dX2_dirty_0 : decode cX2_dirty 0 = .ok (.aload_n 0, 1) := by decide +kernel
theorem dX2_dirty_1 : decode cX2_dirty 1 = .ok (.getfield 21, 3) := by decide +kernel
theorem dX2_dirty_4 : decode cX2_dirty 4 = .ok (.invokevirtual 121, 3) := by decide +kernel
theorem dX2_dirty_7 : decode cX2_dirty 7 = .ok (.ireturn, 1) := by decide +kernel
set_option maxRecDepth 20000 in
theorem ggX2_atHome_X2_requireWord : GoodIn wsX2_atHome wsX2_requireWord := goodIn_ca (goodIn_r _ [8, 9, 10] (by decide +kernel) (by decide +kernel)) (goodIn_sub (fun _ h => List.mem_cons_of_mem _ (List.mem_append_right _ h)) (by decide +kernel))
set_option maxRecDepth 20000 in
theorem gX2_atHome_X2_requireWord : GoodIn wsX2_atHome (va_wsS RX2 35 yX2_requireWord wsX2_requireWord) := goodIn_app (goodIn_of _ (by decide +kernel)) ggX2_atHome_X2_requireWord
set_option maxRecDepth 20000 in
theorem ggX2_atHome_X2_lineOf : GoodIn wsX2_atHome wsX2_lineOf := goodIn_r _ [13] (by decide +kernel) (by decide +kernel)
set_option maxRecDepth 20000 in
theorem gX2_atHome_X2_lineOf : GoodIn wsX2_atHome (va_wsS RX2 39 yX2_lineOf wsX2_lineOf) := goodIn_app (goodIn_of _ (by decide +kernel)) ggX2_atHome_X2_lineOf
theorem dX2_atHome_0 : decode cX2_atHome 0 = .ok (.iload_n 1, 1) := by decide +kernel
theorem dX2_atHome_1 : decode cX2_atHome 1 = .ok (.invokestatic 35, 3) := by decide +kernel
theorem dX2_atHome_4 : decode cX2_atHome 4 = .ok (.aload_n 0, 1) := by decide +kernel
theorem dX2_atHome_5 : decode cX2_atHome 5 = .ok (.getfield 21, 3) := by decide +kernel
theorem dX2_atHome_8 : decode cX2_atHome 8 = .ok (.getfield 47, 3) := by decide +kernel
theorem dX2_atHome_11 : decode cX2_atHome 11 = .ok (.iload_n 1, 1) := by decide +kernel
theorem dX2_atHome_12 : decode cX2_atHome 12 = .ok (.invokestatic 39, 3) := by decide +kernel
theorem dX2_atHome_15 : decode cX2_atHome 15 = .ok (.baload, 1) := by decide +kernel
theorem dX2_atHome_16 : decode cX2_atHome 16 = .ok (.ifCond .eq 12, 3) := by decide +kernel
theorem dX2_atHome_19 : decode cX2_atHome 19 = .ok (.aload_n 0, 1) := by decide +kernel
theorem dX2_atHome_20 : decode cX2_atHome 20 = .ok (.getfield 13, 3) := by decide +kernel
theorem dX2_atHome_23 : decode cX2_atHome 23 = .ok (.iload_n 1, 1) := by decide +kernel
theorem dX2_atHome_24 : decode cX2_atHome 24 = .ok (.iaload, 1) := by decide +kernel
theorem dX2_atHome_25 : decode cX2_atHome 25 = .ok (.goto 9, 3) := by decide +kernel
theorem dX2_atHome_28 : decode cX2_atHome 28 = .ok (.aload_n 0, 1) := by decide +kernel
theorem dX2_atHome_29 : decode cX2_atHome 29 = .ok (.getfield 9, 3) := by decide +kernel
theorem dX2_atHome_32 : decode cX2_atHome 32 = .ok (.iload_n 1, 1) := by decide +kernel
theorem dX2_atHome_33 : decode cX2_atHome 33 = .ok (.iaload, 1) := by decide +kernel
theorem dX2_atHome_34 : decode cX2_atHome 34 = .ok (.ireturn, 1) := by decide +kernel
set_option maxRecDepth 20000 in
theorem ggX2_peek_X2_requireWord : GoodIn wsX2_peek wsX2_requireWord := goodIn_ca (goodIn_r _ [5, 6, 7] (by decide +kernel) (by decide +kernel)) (goodIn_sub (fun _ h => List.mem_cons_of_mem _ (List.mem_append_right _ h)) (by decide +kernel))
set_option maxRecDepth 20000 in
theorem gX2_peek_X2_requireWord : GoodIn wsX2_peek (va_wsS RX2 35 yX2_requireWord wsX2_requireWord) := goodIn_app (goodIn_of _ (by decide +kernel)) ggX2_peek_X2_requireWord
theorem dX2_peek_0 : decode cX2_peek 0 = .ok (.iload_n 1, 1) := by decide +kernel
theorem dX2_peek_1 : decode cX2_peek 1 = .ok (.invokestatic 35, 3) := by decide +kernel
theorem dX2_peek_4 : decode cX2_peek 4 = .ok (.aload_n 0, 1) := by decide +kernel
theorem dX2_peek_5 : decode cX2_peek 5 = .ok (.getfield 9, 3) := by decide +kernel
theorem dX2_peek_8 : decode cX2_peek 8 = .ok (.iload_n 1, 1) := by decide +kernel
theorem dX2_peek_9 : decode cX2_peek 9 = .ok (.iaload, 1) := by decide +kernel
theorem dX2_peek_10 : decode cX2_peek 10 = .ok (.ireturn, 1) := by decide +kernel
theorem dX2_hits_0 : decode cX2_hits 0 = .ok (.aload_n 0, 1) := by decide +kernel
theorem dX2_hits_1 : decode cX2_hits 1 = .ok (.getfield 21, 3) := by decide +kernel
theorem dX2_hits_4 : decode cX2_hits 4 = .ok (.getfield 124, 3) := by decide +kernel
theorem dX2_hits_7 : decode cX2_hits 7 = .ok (.ireturn, 1) := by decide +kernel
theorem dX2_swaps_0 : decode cX2_swaps 0 = .ok (.aload_n 0, 1) := by decide +kernel
theorem dX2_swaps_1 : decode cX2_swaps 1 = .ok (.getfield 21, 3) := by decide +kernel
theorem dX2_swaps_4 : decode cX2_swaps 4 = .ok (.getfield 127, 3) := by decide +kernel
theorem dX2_swaps_7 : decode cX2_swaps 7 = .ok (.ireturn, 1) := by decide +kernel
theorem dX2_misses_0 : decode cX2_misses 0 = .ok (.aload_n 0, 1) := by decide +kernel
theorem dX2_misses_1 : decode cX2_misses 1 = .ok (.getfield 21, 3) := by decide +kernel
theorem dX2_misses_4 : decode cX2_misses 4 = .ok (.getfield 130, 3) := by decide +kernel
theorem dX2_misses_7 : decode cX2_misses 7 = .ok (.ireturn, 1) := by decide +kernel
theorem dX2_homecomings_0 : decode cX2_homecomings 0 = .ok (.aload_n 0, 1) := by decide +kernel
theorem dX2_homecomings_1 : decode cX2_homecomings 1 = .ok (.getfield 21, 3) := by decide +kernel
theorem dX2_homecomings_4 : decode cX2_homecomings 4 = .ok (.getfield 133, 3) := by decide +kernel
theorem dX2_homecomings_7 : decode cX2_homecomings 7 = .ok (.ireturn, 1) := by decide +kernel
theorem dX2_cost_0 : decode cX2_cost 0 = .ok (.aload_n 0, 1) := by decide +kernel
theorem dX2_cost_1 : decode cX2_cost 1 = .ok (.getfield 21, 3) := by decide +kernel
theorem dX2_cost_4 : decode cX2_cost 4 = .ok (.getfield 61, 3) := by decide +kernel
theorem dX2_cost_7 : decode cX2_cost 7 = .ok (.ireturn, 1) := by decide +kernel
set_option maxRecDepth 20000 in
theorem ggX2_wouldCost_X2_requireSize : GoodIn wsX2_wouldCost wsX2_requireSize := goodIn_ca (goodIn_r _ [4, 5, 6] (by decide +kernel) (by decide +kernel)) (goodIn_sub (fun _ h => List.mem_cons_of_mem _ (List.mem_append_right _ h)) (by decide +kernel))
set_option maxRecDepth 20000 in
theorem gX2_wouldCost_X2_requireSize : GoodIn wsX2_wouldCost (va_wsS RX2 75 yX2_requireSize wsX2_requireSize) := goodIn_app (goodIn_of _ (by decide +kernel)) ggX2_wouldCost_X2_requireSize
set_option maxRecDepth 20000 in
theorem ggX2_wouldCost_X2_costOfTrial : GoodIn wsX2_wouldCost wsX2_costOfTrial := goodIn_r _ [10, 11, 12, 13, 14, 15, 16, 17, 18, 19, 20, 21, 22, 23, 24, 25, 26, 27, 28, 29, 30, 31, 32, 33, 34, 35, 36, 37, 38, 39, 40, 41, 42, 43, 44, 45, 46, 47, 48, 49, 50, 51, 52, 53, 54, 55, 56, 57, 58, 59, 60, 61, 62, 63, 64, 65, 66, 67, 68, 69, 70, 71, 72, 73, 74, 75, 76, 77, 78, 79, 80, 81, 82, 83, 84, 85, 86, 87] (by decide +kernel) (by decide +kernel)
set_option maxRecDepth 20000 in
theorem gX2_wouldCost_X2_costOfTrial : GoodIn wsX2_wouldCost (wsV RX2 136 RX2 yX2_costOfTrial wsX2_costOfTrial) := goodIn_app (goodIn_of _ (by decide +kernel)) ggX2_wouldCost_X2_costOfTrial
theorem dX2_wouldCost_0 : decode cX2_wouldCost 0 = .ok (.iload_n 1, 1) := by decide +kernel
theorem dX2_wouldCost_1 : decode cX2_wouldCost 1 = .ok (.iload_n 2, 1) := by decide +kernel
theorem dX2_wouldCost_2 : decode cX2_wouldCost 2 = .ok (.invokestatic 75, 3) := by decide +kernel
theorem dX2_wouldCost_5 : decode cX2_wouldCost 5 = .ok (.aload_n 0, 1) := by decide +kernel
theorem dX2_wouldCost_6 : decode cX2_wouldCost 6 = .ok (.iload_n 1, 1) := by decide +kernel
theorem dX2_wouldCost_7 : decode cX2_wouldCost 7 = .ok (.iload_n 2, 1) := by decide +kernel
theorem dX2_wouldCost_8 : decode cX2_wouldCost 8 = .ok (.invokevirtual 136, 3) := by decide +kernel
theorem dX2_wouldCost_11 : decode cX2_wouldCost 11 = .ok (.ireturn, 1) := by decide +kernel
set_option maxRecDepth 20000 in
theorem ggX2_bestPlaces_X2_costOfTrial : GoodIn wsX2_bestPlaces wsX2_costOfTrial := goodIn_r _ [7, 8, 9, 10, 11, 12, 13, 14, 15, 16, 17, 18, 19, 20, 21, 22, 23, 24, 25, 26, 27, 28, 29, 30, 31, 32, 33, 34, 35, 36, 37, 38, 39, 40, 41, 42, 43, 44, 45, 46, 47, 48, 49, 50, 51, 52, 53, 54, 55, 56, 57, 58, 59, 60, 61, 62, 63, 64, 65, 66, 67, 68, 69, 70, 71, 72, 73, 74, 75, 76, 77, 78, 79, 80, 81, 82, 83, 84] (by decide +kernel) (by decide +kernel)
set_option maxRecDepth 20000 in
theorem gX2_bestPlaces_X2_costOfTrial : GoodIn wsX2_bestPlaces (wsV RX2 136 RX2 yX2_costOfTrial wsX2_costOfTrial) := goodIn_app (goodIn_of _ (by decide +kernel)) ggX2_bestPlaces_X2_costOfTrial
theorem dX2_bestPlaces_0 : decode cX2_bestPlaces 0 = .ok (.iconst 0, 1) := by decide +kernel
theorem dX2_bestPlaces_1 : decode cX2_bestPlaces 1 = .ok (.istore_n 1, 1) := by decide +kernel
theorem dX2_bestPlaces_2 : decode cX2_bestPlaces 2 = .ok (.aload_n 0, 1) := by decide +kernel
theorem dX2_bestPlaces_3 : decode cX2_bestPlaces 3 = .ok (.aload_n 0, 1) := by decide +kernel
theorem dX2_bestPlaces_4 : decode cX2_bestPlaces 4 = .ok (.getfield 21, 3) := by decide +kernel
theorem dX2_bestPlaces_7 : decode cX2_bestPlaces 7 = .ok (.getfield 98, 3) := by decide +kernel
theorem dX2_bestPlaces_10 : decode cX2_bestPlaces 10 = .ok (.iconst 0, 1) := by decide +kernel
theorem dX2_bestPlaces_11 : decode cX2_bestPlaces 11 = .ok (.invokevirtual 136, 3) := by decide +kernel
theorem dX2_bestPlaces_14 : decode cX2_bestPlaces 14 = .ok (.istore_n 2, 1) := by decide +kernel
theorem dX2_bestPlaces_15 : decode cX2_bestPlaces 15 = .ok (.iconst 1, 1) := by decide +kernel
theorem dX2_bestPlaces_16 : decode cX2_bestPlaces 16 = .ok (.istore_n 3, 1) := by decide +kernel
theorem dX2_bestPlaces_17 : decode cX2_bestPlaces 17 = .ok (.iload_n 3, 1) := by decide +kernel
theorem dX2_bestPlaces_18 : decode cX2_bestPlaces 18 = .ok (.bipush 8, 2) := by decide +kernel
theorem dX2_bestPlaces_20 : decode cX2_bestPlaces 20 = .ok (.if_icmp .gt 34, 3) := by decide +kernel
theorem dX2_bestPlaces_23 : decode cX2_bestPlaces 23 = .ok (.aload_n 0, 1) := by decide +kernel
theorem dX2_bestPlaces_24 : decode cX2_bestPlaces 24 = .ok (.aload_n 0, 1) := by decide +kernel
theorem dX2_bestPlaces_25 : decode cX2_bestPlaces 25 = .ok (.getfield 21, 3) := by decide +kernel
theorem dX2_bestPlaces_28 : decode cX2_bestPlaces 28 = .ok (.getfield 98, 3) := by decide +kernel
theorem dX2_bestPlaces_31 : decode cX2_bestPlaces 31 = .ok (.iload_n 3, 1) := by decide +kernel
theorem dX2_bestPlaces_32 : decode cX2_bestPlaces 32 = .ok (.invokevirtual 136, 3) := by decide +kernel
theorem dX2_bestPlaces_35 : decode cX2_bestPlaces 35 = .ok (.istore 4, 2) := by decide +kernel
theorem dX2_bestPlaces_37 : decode cX2_bestPlaces 37 = .ok (.iload 4, 2) := by decide +kernel
theorem dX2_bestPlaces_39 : decode cX2_bestPlaces 39 = .ok (.iload_n 2, 1) := by decide +kernel
theorem dX2_bestPlaces_40 : decode cX2_bestPlaces 40 = .ok (.if_icmp .ge 8, 3) := by decide +kernel
theorem dX2_bestPlaces_43 : decode cX2_bestPlaces 43 = .ok (.iload_n 3, 1) := by decide +kernel
theorem dX2_bestPlaces_44 : decode cX2_bestPlaces 44 = .ok (.istore_n 1, 1) := by decide +kernel
theorem dX2_bestPlaces_45 : decode cX2_bestPlaces 45 = .ok (.iload 4, 2) := by decide +kernel
theorem dX2_bestPlaces_47 : decode cX2_bestPlaces 47 = .ok (.istore_n 2, 1) := by decide +kernel
theorem dX2_bestPlaces_48 : decode cX2_bestPlaces 48 = .ok (.iinc 3 1, 3) := by decide +kernel
theorem dX2_bestPlaces_51 : decode cX2_bestPlaces 51 = .ok (.goto (-34), 3) := by decide +kernel
theorem dX2_bestPlaces_54 : decode cX2_bestPlaces 54 = .ok (.iload_n 1, 1) := by decide +kernel
theorem dX2_bestPlaces_55 : decode cX2_bestPlaces 55 = .ok (.ireturn, 1) := by decide +kernel
set_option maxRecDepth 20000 in
theorem ggX2_ask_X0_access : GoodIn wsX2_ask wsX0_access := goodIn_r _ [7, 8, 9, 10, 11, 12, 13, 14, 15, 16, 6, 17, 18, 19, 20, 21, 22, 23, 24, 25, 26, 27, 28, 29, 30, 31, 32, 33, 34, 35, 36, 37, 38, 53, 54, 55, 56, 57, 58, 59, 60, 61, 62, 63] (by decide +kernel) (by decide +kernel)
set_option maxRecDepth 20000 in
theorem gX2_ask_X0_access : GoodIn wsX2_ask (wsV RX2 139 RX0 yX0_access wsX0_access) := goodIn_app (goodIn_of _ (by decide +kernel)) ggX2_ask_X0_access
set_option maxRecDepth 20000 in
theorem ggX2_ask_X1_add : GoodIn wsX2_ask wsX1_add := goodIn_r _ [43, 44, 45, 46, 47, 64, 65, 66, 67] (by decide +kernel) (by decide +kernel)
set_option maxRecDepth 20000 in
theorem gX2_ask_X1_add : GoodIn wsX2_ask (wsV RX2 142 RX1 yX1_add wsX1_add) := goodIn_app (goodIn_of _ (by decide +kernel)) ggX2_ask_X1_add
theorem dX2_ask_0 : decode cX2_ask 0 = .ok (.aload_n 0, 1) := by decide +kernel
theorem dX2_ask_1 : decode cX2_ask 1 = .ok (.getfield 21, 3) := by decide +kernel
theorem dX2_ask_4 : decode cX2_ask 4 = .ok (.iload_n 1, 1) := by decide +kernel
theorem dX2_ask_5 : decode cX2_ask 5 = .ok (.iload_n 2, 1) := by decide +kernel
theorem dX2_ask_6 : decode cX2_ask 6 = .ok (.invokevirtual 139, 3) := by decide +kernel
theorem dX2_ask_9 : decode cX2_ask 9 = .ok (.aload_n 0, 1) := by decide +kernel
theorem dX2_ask_10 : decode cX2_ask 10 = .ok (.getfield 31, 3) := by decide +kernel
theorem dX2_ask_13 : decode cX2_ask 13 = .ok (.iload_n 1, 1) := by decide +kernel
theorem dX2_ask_14 : decode cX2_ask 14 = .ok (.iload_n 2, 1) := by decide +kernel
theorem dX2_ask_15 : decode cX2_ask 15 = .ok (.invokevirtual 142, 3) := by decide +kernel
theorem dX2_ask_18 : decode cX2_ask 18 = .ok (.return_, 1) := by decide +kernel
theorem dX2_keepHomeWords_0 : decode cX2_keepHomeWords 0 = .ok (.iload_n 1, 1) := by decide +kernel
theorem dX2_keepHomeWords_1 : decode cX2_keepHomeWords 1 = .ok (.iconst 4, 1) := by decide +kernel
theorem dX2_keepHomeWords_2 : decode cX2_keepHomeWords 2 = .ok (.imul, 1) := by decide +kernel
theorem dX2_keepHomeWords_3 : decode cX2_keepHomeWords 3 = .ok (.istore_n 2, 1) := by decide +kernel
theorem dX2_keepHomeWords_4 : decode cX2_keepHomeWords 4 = .ok (.aload_n 0, 1) := by decide +kernel
theorem dX2_keepHomeWords_5 : decode cX2_keepHomeWords 5 = .ok (.getfield 9, 3) := by decide +kernel
theorem dX2_keepHomeWords_8 : decode cX2_keepHomeWords 8 = .ok (.iload_n 2, 1) := by decide +kernel
theorem dX2_keepHomeWords_9 : decode cX2_keepHomeWords 9 = .ok (.aload_n 0, 1) := by decide +kernel
theorem dX2_keepHomeWords_10 : decode cX2_keepHomeWords 10 = .ok (.getfield 13, 3) := by decide +kernel
theorem dX2_keepHomeWords_13 : decode cX2_keepHomeWords 13 = .ok (.iload_n 2, 1) := by decide +kernel
theorem dX2_keepHomeWords_14 : decode cX2_keepHomeWords 14 = .ok (.iconst 4, 1) := by decide +kernel
theorem dX2_keepHomeWords_15 : decode cX2_keepHomeWords 15 = .ok (.invokestatic 145, 3) := by decide +kernel
theorem dX2_keepHomeWords_18 : decode cX2_keepHomeWords 18 = .ok (.return_, 1) := by decide +kernel
set_option maxRecDepth 20000 in
theorem ggX2_costOfTrial_X0_startEmpty : GoodIn wsX2_costOfTrial wsX0_startEmpty := goodIn_r _ [11, 12, 13, 14, 15, 16, 17, 18, 19, 20, 63, 64, 65, 66, 67, 68, 69, 70, 71, 72, 73] (by decide +kernel) (by decide +kernel)
set_option maxRecDepth 20000 in
theorem gX2_costOfTrial_X0_startEmpty : GoodIn wsX2_costOfTrial (wsV RX2 81 RX0 yX0_startEmpty wsX0_startEmpty) := goodIn_app (goodIn_of _ (by decide +kernel)) ggX2_costOfTrial_X0_startEmpty
set_option maxRecDepth 20000 in
theorem ggX2_costOfTrial_X1_slotOf : GoodIn wsX2_costOfTrial wsX1_slotOf := goodIn_r _ [25, 26, 27, 74, 75, 76, 77] (by decide +kernel) (by decide +kernel)
set_option maxRecDepth 20000 in
theorem gX2_costOfTrial_X1_slotOf : GoodIn wsX2_costOfTrial (wsV RX2 154 RX1 yX1_slotOf wsX1_slotOf) := goodIn_app (goodIn_of _ (by decide +kernel)) ggX2_costOfTrial_X1_slotOf
set_option maxRecDepth 20000 in
theorem ggX2_costOfTrial_X0_access : GoodIn wsX2_costOfTrial wsX0_access := goodIn_r _ [31, 14, 32, 33, 34, 35, 16, 36, 37, 38, 10, 39, 12, 40, 41, 42, 43, 15, 44, 45, 46, 47, 48, 49, 50, 51, 52, 13, 53, 54, 55, 56, 57, 63, 64, 65, 66, 67, 68, 69, 70, 71, 72, 73] (by decide +kernel) (by decide +kernel)
set_option maxRecDepth 20000 in
theorem gX2_costOfTrial_X0_access : GoodIn wsX2_costOfTrial (wsV RX2 139 RX0 yX0_access wsX0_access) := goodIn_app (goodIn_of _ (by decide +kernel)) ggX2_costOfTrial_X0_access
theorem dX2_costOfTrial_0 : decode cX2_costOfTrial 0 = .ok (.aload_n 0, 1) := by decide +kernel
theorem dX2_costOfTrial_1 : decode cX2_costOfTrial 1 = .ok (.getfield 25, 3) := by decide +kernel
theorem dX2_costOfTrial_4 : decode cX2_costOfTrial 4 = .ok (.iload_n 1, 1) := by decide +kernel
theorem dX2_costOfTrial_5 : decode cX2_costOfTrial 5 = .ok (.iload_n 2, 1) := by decide +kernel
theorem dX2_costOfTrial_6 : decode cX2_costOfTrial 6 = .ok (.invokevirtual 81, 3) := by decide +kernel
theorem dX2_costOfTrial_9 : decode cX2_costOfTrial 9 = .ok (.aload_n 0, 1) := by decide +kernel
theorem dX2_costOfTrial_10 : decode cX2_costOfTrial 10 = .ok (.getfield 25, 3) := by decide +kernel
theorem dX2_costOfTrial_13 : decode cX2_costOfTrial 13 = .ok (.getfield 61, 3) := by decide +kernel
theorem dX2_costOfTrial_16 : decode cX2_costOfTrial 16 = .ok (.istore_n 3, 1) := by decide +kernel
theorem dX2_costOfTrial_17 : decode cX2_costOfTrial 17 = .ok (.iconst 0, 1) := by decide +kernel
theorem dX2_costOfTrial_18 : decode cX2_costOfTrial 18 = .ok (.istore 4, 2) := by decide +kernel
theorem dX2_costOfTrial_20 : decode cX2_costOfTrial 20 = .ok (.iload 4, 2) := by decide +kernel
theorem dX2_costOfTrial_22 : decode cX2_costOfTrial 22 = .ok (.aload_n 0, 1) := by decide +kernel
theorem dX2_costOfTrial_23 : decode cX2_costOfTrial 23 = .ok (.getfield 31, 3) := by decide +kernel
theorem dX2_costOfTrial_26 : decode cX2_costOfTrial 26 = .ok (.getfield 151, 3) := by decide +kernel
theorem dX2_costOfTrial_29 : decode cX2_costOfTrial 29 = .ok (.if_icmp .ge 47, 3) := by decide +kernel
theorem dX2_costOfTrial_32 : decode cX2_costOfTrial 32 = .ok (.aload_n 0, 1) := by decide +kernel
theorem dX2_costOfTrial_33 : decode cX2_costOfTrial 33 = .ok (.getfield 31, 3) := by decide +kernel
theorem dX2_costOfTrial_36 : decode cX2_costOfTrial 36 = .ok (.iload 4, 2) := by decide +kernel
theorem dX2_costOfTrial_38 : decode cX2_costOfTrial 38 = .ok (.invokevirtual 154, 3) := by decide +kernel
theorem dX2_costOfTrial_41 : decode cX2_costOfTrial 41 = .ok (.istore 5, 2) := by decide +kernel
theorem dX2_costOfTrial_43 : decode cX2_costOfTrial 43 = .ok (.aload_n 0, 1) := by decide +kernel
theorem dX2_costOfTrial_44 : decode cX2_costOfTrial 44 = .ok (.getfield 25, 3) := by decide +kernel
theorem dX2_costOfTrial_47 : decode cX2_costOfTrial 47 = .ok (.aload_n 0, 1) := by decide +kernel
theorem dX2_costOfTrial_48 : decode cX2_costOfTrial 48 = .ok (.getfield 31, 3) := by decide +kernel
theorem dX2_costOfTrial_51 : decode cX2_costOfTrial 51 = .ok (.getfield 157, 3) := by decide +kernel
theorem dX2_costOfTrial_54 : decode cX2_costOfTrial 54 = .ok (.iload 5, 2) := by decide +kernel
theorem dX2_costOfTrial_56 : decode cX2_costOfTrial 56 = .ok (.iaload, 1) := by decide +kernel
theorem dX2_costOfTrial_57 : decode cX2_costOfTrial 57 = .ok (.aload_n 0, 1) := by decide +kernel
theorem dX2_costOfTrial_58 : decode cX2_costOfTrial 58 = .ok (.getfield 31, 3) := by decide +kernel
theorem dX2_costOfTrial_61 : decode cX2_costOfTrial 61 = .ok (.getfield 158, 3) := by decide +kernel
theorem dX2_costOfTrial_64 : decode cX2_costOfTrial 64 = .ok (.iload 5, 2) := by decide +kernel
theorem dX2_costOfTrial_66 : decode cX2_costOfTrial 66 = .ok (.baload, 1) := by decide +kernel
theorem dX2_costOfTrial_67 : decode cX2_costOfTrial 67 = .ok (.invokevirtual 139, 3) := by decide +kernel
theorem dX2_costOfTrial_70 : decode cX2_costOfTrial 70 = .ok (.iinc 4 1, 3) := by decide +kernel
theorem dX2_costOfTrial_73 : decode cX2_costOfTrial 73 = .ok (.goto (-53), 3) := by decide +kernel
theorem dX2_costOfTrial_76 : decode cX2_costOfTrial 76 = .ok (.aload_n 0, 1) := by decide +kernel
theorem dX2_costOfTrial_77 : decode cX2_costOfTrial 77 = .ok (.getfield 25, 3) := by decide +kernel
theorem dX2_costOfTrial_80 : decode cX2_costOfTrial 80 = .ok (.getfield 61, 3) := by decide +kernel
theorem dX2_costOfTrial_83 : decode cX2_costOfTrial 83 = .ok (.iload_n 3, 1) := by decide +kernel
theorem dX2_costOfTrial_84 : decode cX2_costOfTrial 84 = .ok (.isub, 1) := by decide +kernel
theorem dX2_costOfTrial_85 : decode cX2_costOfTrial 85 = .ok (.ireturn, 1) := by decide +kernel
theorem dX2_lineOf_0 : decode cX2_lineOf 0 = .ok (.iload_n 0, 1) := by decide +kernel
theorem dX2_lineOf_1 : decode cX2_lineOf 1 = .ok (.iconst 4, 1) := by decide +kernel
theorem dX2_lineOf_2 : decode cX2_lineOf 2 = .ok (.idiv, 1) := by decide +kernel
theorem dX2_lineOf_3 : decode cX2_lineOf 3 = .ok (.ireturn, 1) := by decide +kernel
theorem dX2_requireWord_0 : decode cX2_requireWord 0 = .ok (.iload_n 0, 1) := by decide +kernel
theorem dX2_requireWord_1 : decode cX2_requireWord 1 = .ok (.ifCond .lt 10, 3) := by decide +kernel
theorem dX2_requireWord_4 : decode cX2_requireWord 4 = .ok (.iload_n 0, 1) := by decide +kernel
theorem dX2_requireWord_5 : decode cX2_requireWord 5 = .ok (.sipush 1024, 3) := by decide +kernel
theorem dX2_requireWord_8 : decode cX2_requireWord 8 = .ok (.if_icmp .lt 13, 3) := by decide +kernel
theorem dX2_requireWord_11 : decode cX2_requireWord 11 = .ok (.new 107, 3) := by decide +kernel
theorem dX2_requireWord_14 : decode cX2_requireWord 14 = .ok (.dup, 1) := by decide +kernel
theorem dX2_requireWord_15 : decode cX2_requireWord 15 = .ok (.ldc 161, 2) := by decide +kernel
theorem dX2_requireWord_17 : decode cX2_requireWord 17 = .ok (.invokespecial 111, 3) := by decide +kernel
theorem dX2_requireWord_20 : decode cX2_requireWord 20 = .ok (.athrow, 1) := by decide +kernel
theorem dX2_requireWord_21 : decode cX2_requireWord 21 = .ok (.return_, 1) := by decide +kernel
theorem dX2_requireLine_0 : decode cX2_requireLine 0 = .ok (.iload_n 0, 1) := by decide +kernel
theorem dX2_requireLine_1 : decode cX2_requireLine 1 = .ok (.ifCond .lt 10, 3) := by decide +kernel
theorem dX2_requireLine_4 : decode cX2_requireLine 4 = .ok (.iload_n 0, 1) := by decide +kernel
theorem dX2_requireLine_5 : decode cX2_requireLine 5 = .ok (.sipush 256, 3) := by decide +kernel
theorem dX2_requireLine_8 : decode cX2_requireLine 8 = .ok (.if_icmp .lt 13, 3) := by decide +kernel
theorem dX2_requireLine_11 : decode cX2_requireLine 11 = .ok (.new 107, 3) := by decide +kernel
theorem dX2_requireLine_14 : decode cX2_requireLine 14 = .ok (.dup, 1) := by decide +kernel
theorem dX2_requireLine_15 : decode cX2_requireLine 15 = .ok (.ldc 163, 2) := by decide +kernel
theorem dX2_requireLine_17 : decode cX2_requireLine 17 = .ok (.invokespecial 111, 3) := by decide +kernel
theorem dX2_requireLine_20 : decode cX2_requireLine 20 = .ok (.athrow, 1) := by decide +kernel
theorem dX2_requireLine_21 : decode cX2_requireLine 21 = .ok (.return_, 1) := by decide +kernel
theorem dX2_requireSet_0 : decode cX2_requireSet 0 = .ok (.iload_n 1, 1) := by decide +kernel
theorem dX2_requireSet_1 : decode cX2_requireSet 1 = .ok (.ifCond .lt 14, 3) := by decide +kernel
theorem dX2_requireSet_4 : decode cX2_requireSet 4 = .ok (.iload_n 1, 1) := by decide +kernel
theorem dX2_requireSet_5 : decode cX2_requireSet 5 = .ok (.aload_n 0, 1) := by decide +kernel
theorem dX2_requireSet_6 : decode cX2_requireSet 6 = .ok (.getfield 21, 3) := by decide +kernel
theorem dX2_requireSet_9 : decode cX2_requireSet 9 = .ok (.getfield 98, 3) := by decide +kernel
theorem dX2_requireSet_12 : decode cX2_requireSet 12 = .ok (.if_icmp .lt 13, 3) := by decide +kernel
theorem dX2_requireSet_15 : decode cX2_requireSet 15 = .ok (.new 107, 3) := by decide +kernel
theorem dX2_requireSet_18 : decode cX2_requireSet 18 = .ok (.dup, 1) := by decide +kernel
theorem dX2_requireSet_19 : decode cX2_requireSet 19 = .ok (.ldc 165, 2) := by decide +kernel
theorem dX2_requireSet_21 : decode cX2_requireSet 21 = .ok (.invokespecial 111, 3) := by decide +kernel
theorem dX2_requireSet_24 : decode cX2_requireSet 24 = .ok (.athrow, 1) := by decide +kernel
theorem dX2_requireSet_25 : decode cX2_requireSet 25 = .ok (.return_, 1) := by decide +kernel
theorem dX2_requireSize_0 : decode cX2_requireSize 0 = .ok (.iload_n 0, 1) := by decide +kernel
theorem dX2_requireSize_1 : decode cX2_requireSize 1 = .ok (.iconst 1, 1) := by decide +kernel
theorem dX2_requireSize_2 : decode cX2_requireSize 2 = .ok (.if_icmp .eq 25, 3) := by decide +kernel
theorem dX2_requireSize_5 : decode cX2_requireSize 5 = .ok (.iload_n 0, 1) := by decide +kernel
theorem dX2_requireSize_6 : decode cX2_requireSize 6 = .ok (.iconst 2, 1) := by decide +kernel
theorem dX2_requireSize_7 : decode cX2_requireSize 7 = .ok (.if_icmp .eq 20, 3) := by decide +kernel
theorem dX2_requireSize_10 : decode cX2_requireSize 10 = .ok (.iload_n 0, 1) := by decide +kernel
theorem dX2_requireSize_11 : decode cX2_requireSize 11 = .ok (.iconst 4, 1) := by decide +kernel
theorem dX2_requireSize_12 : decode cX2_requireSize 12 = .ok (.if_icmp .eq 15, 3) := by decide +kernel
theorem dX2_requireSize_15 : decode cX2_requireSize 15 = .ok (.iload_n 0, 1) := by decide +kernel
theorem dX2_requireSize_16 : decode cX2_requireSize 16 = .ok (.bipush 8, 2) := by decide +kernel
theorem dX2_requireSize_18 : decode cX2_requireSize 18 = .ok (.if_icmp .eq 9, 3) := by decide +kernel
theorem dX2_requireSize_21 : decode cX2_requireSize 21 = .ok (.iload_n 0, 1) := by decide +kernel
theorem dX2_requireSize_22 : decode cX2_requireSize 22 = .ok (.bipush 16, 2) := by decide +kernel
theorem dX2_requireSize_24 : decode cX2_requireSize 24 = .ok (.if_icmp .ne 7, 3) := by decide +kernel
theorem dX2_requireSize_27 : decode cX2_requireSize 27 = .ok (.iconst 1, 1) := by decide +kernel
theorem dX2_requireSize_28 : decode cX2_requireSize 28 = .ok (.goto 4, 3) := by decide +kernel
theorem dX2_requireSize_31 : decode cX2_requireSize 31 = .ok (.iconst 0, 1) := by decide +kernel
theorem dX2_requireSize_32 : decode cX2_requireSize 32 = .ok (.istore_n 2, 1) := by decide +kernel
theorem dX2_requireSize_33 : decode cX2_requireSize 33 = .ok (.iload_n 2, 1) := by decide +kernel
theorem dX2_requireSize_34 : decode cX2_requireSize 34 = .ok (.ifCond .eq 13, 3) := by decide +kernel
theorem dX2_requireSize_37 : decode cX2_requireSize 37 = .ok (.iload_n 1, 1) := by decide +kernel
theorem dX2_requireSize_38 : decode cX2_requireSize 38 = .ok (.ifCond .lt 9, 3) := by decide +kernel
theorem dX2_requireSize_41 : decode cX2_requireSize 41 = .ok (.iload_n 1, 1) := by decide +kernel
theorem dX2_requireSize_42 : decode cX2_requireSize 42 = .ok (.bipush 8, 2) := by decide +kernel
theorem dX2_requireSize_44 : decode cX2_requireSize 44 = .ok (.if_icmp .le 13, 3) := by decide +kernel
theorem dX2_requireSize_47 : decode cX2_requireSize 47 = .ok (.new 54, 3) := by decide +kernel
theorem dX2_requireSize_50 : decode cX2_requireSize 50 = .ok (.dup, 1) := by decide +kernel
theorem dX2_requireSize_51 : decode cX2_requireSize 51 = .ok (.ldc 167, 2) := by decide +kernel
theorem dX2_requireSize_53 : decode cX2_requireSize 53 = .ok (.invokespecial 58, 3) := by decide +kernel
theorem dX2_requireSize_56 : decode cX2_requireSize 56 = .ok (.athrow, 1) := by decide +kernel
theorem dX2_requireSize_57 : decode cX2_requireSize 57 = .ok (.return_, 1) := by decide +kernel
theorem dJ9_floorMod_7cf53_0 : decode cJ9_floorMod_7cf53 0 = .ok (.iload_n 0, 1) := by decide +kernel
theorem dJ9_floorMod_7cf53_1 : decode cJ9_floorMod_7cf53 1 = .ok (.iload_n 1, 1) := by decide +kernel
theorem dJ9_floorMod_7cf53_2 : decode cJ9_floorMod_7cf53 2 = .ok (.irem, 1) := by decide +kernel
theorem dJ9_floorMod_7cf53_3 : decode cJ9_floorMod_7cf53 3 = .ok (.istore_n 2, 1) := by decide +kernel
theorem dJ9_floorMod_7cf53_4 : decode cJ9_floorMod_7cf53 4 = .ok (.iload_n 0, 1) := by decide +kernel
theorem dJ9_floorMod_7cf53_5 : decode cJ9_floorMod_7cf53 5 = .ok (.iload_n 1, 1) := by decide +kernel
theorem dJ9_floorMod_7cf53_6 : decode cJ9_floorMod_7cf53 6 = .ok (.ixor, 1) := by decide +kernel
theorem dJ9_floorMod_7cf53_7 : decode cJ9_floorMod_7cf53 7 = .ok (.ifCond .ge 11, 3) := by decide +kernel
theorem dJ9_floorMod_7cf53_10 : decode cJ9_floorMod_7cf53 10 = .ok (.iload_n 2, 1) := by decide +kernel
theorem dJ9_floorMod_7cf53_11 : decode cJ9_floorMod_7cf53 11 = .ok (.ifCond .eq 7, 3) := by decide +kernel
theorem dJ9_floorMod_7cf53_14 : decode cJ9_floorMod_7cf53 14 = .ok (.iload_n 2, 1) := by decide +kernel
theorem dJ9_floorMod_7cf53_15 : decode cJ9_floorMod_7cf53 15 = .ok (.iload_n 1, 1) := by decide +kernel
theorem dJ9_floorMod_7cf53_16 : decode cJ9_floorMod_7cf53 16 = .ok (.iadd, 1) := by decide +kernel
theorem dJ9_floorMod_7cf53_17 : decode cJ9_floorMod_7cf53 17 = .ok (.ireturn, 1) := by decide +kernel
theorem dJ9_floorMod_7cf53_18 : decode cJ9_floorMod_7cf53 18 = .ok (.iload_n 2, 1) := by decide +kernel
theorem dJ9_floorMod_7cf53_19 : decode cJ9_floorMod_7cf53 19 = .ok (.ireturn, 1) := by decide +kernel
theorem dJ7_fill_53178_0 : decode cJ7_fill_53178 0 = .ok (.iconst 0, 1) := by decide +kernel
theorem dJ7_fill_53178_1 : decode cJ7_fill_53178 1 = .ok (.istore_n 2, 1) := by decide +kernel
theorem dJ7_fill_53178_2 : decode cJ7_fill_53178 2 = .ok (.aload_n 0, 1) := by decide +kernel
theorem dJ7_fill_53178_3 : decode cJ7_fill_53178 3 = .ok (.arraylength, 1) := by decide +kernel
theorem dJ7_fill_53178_4 : decode cJ7_fill_53178 4 = .ok (.istore_n 3, 1) := by decide +kernel
theorem dJ7_fill_53178_5 : decode cJ7_fill_53178 5 = .ok (.iload_n 2, 1) := by decide +kernel
theorem dJ7_fill_53178_6 : decode cJ7_fill_53178 6 = .ok (.iload_n 3, 1) := by decide +kernel
theorem dJ7_fill_53178_7 : decode cJ7_fill_53178 7 = .ok (.if_icmp .ge 13, 3) := by decide +kernel
theorem dJ7_fill_53178_10 : decode cJ7_fill_53178 10 = .ok (.aload_n 0, 1) := by decide +kernel
theorem dJ7_fill_53178_11 : decode cJ7_fill_53178 11 = .ok (.iload_n 2, 1) := by decide +kernel
theorem dJ7_fill_53178_12 : decode cJ7_fill_53178 12 = .ok (.iload_n 1, 1) := by decide +kernel
theorem dJ7_fill_53178_13 : decode cJ7_fill_53178 13 = .ok (.iastore, 1) := by decide +kernel
theorem dJ7_fill_53178_14 : decode cJ7_fill_53178 14 = .ok (.iinc 2 1, 3) := by decide +kernel
theorem dJ7_fill_53178_17 : decode cJ7_fill_53178 17 = .ok (.goto (-12), 3) := by decide +kernel
theorem dJ7_fill_53178_20 : decode cJ7_fill_53178 20 = .ok (.return_, 1) := by decide +kernel
theorem dL_drawn_0 : decode cL_drawn 0 = .ok (.iload_n 1, 1) := by decide +kernel
theorem dL_drawn_1 : decode cL_drawn 1 = .ok (.aload_n 0, 1) := by decide +kernel
theorem dL_drawn_2 : decode cL_drawn 2 = .ok (.arraylength, 1) := by decide +kernel
theorem dL_drawn_3 : decode cL_drawn 3 = .ok (.if_icmp .ge 9, 3) := by decide +kernel
theorem dL_drawn_6 : decode cL_drawn 6 = .ok (.aload_n 0, 1) := by decide +kernel
theorem dL_drawn_7 : decode cL_drawn 7 = .ok (.iload_n 1, 1) := by decide +kernel
theorem dL_drawn_8 : decode cL_drawn 8 = .ok (.iaload, 1) := by decide +kernel
theorem dL_drawn_9 : decode cL_drawn 9 = .ok (.goto 11, 3) := by decide +kernel
theorem dL_drawn_12 : decode cL_drawn 12 = .ok (.sipush 27697, 3) := by decide +kernel
theorem dL_drawn_15 : decode cL_drawn 15 = .ok (.iload_n 1, 1) := by decide +kernel
theorem dL_drawn_16 : decode cL_drawn 16 = .ok (.imul, 1) := by decide +kernel
theorem dL_drawn_17 : decode cL_drawn 17 = .ok (.ldc 7, 2) := by decide +kernel
theorem dL_drawn_19 : decode cL_drawn 19 = .ok (.iadd, 1) := by decide +kernel
theorem dL_drawn_20 : decode cL_drawn 20 = .ok (.istore_n 3, 1) := by decide +kernel
theorem dL_drawn_21 : decode cL_drawn 21 = .ok (.iload_n 3, 1) := by decide +kernel
theorem dL_drawn_22 : decode cL_drawn 22 = .ok (.iconst 1, 1) := by decide +kernel
theorem dL_drawn_23 : decode cL_drawn 23 = .ok (.iushr, 1) := by decide +kernel
theorem dL_drawn_24 : decode cL_drawn 24 = .ok (.iload_n 2, 1) := by decide +kernel
theorem dL_drawn_25 : decode cL_drawn 25 = .ok (.irem, 1) := by decide +kernel
theorem dL_drawn_26 : decode cL_drawn 26 = .ok (.ireturn, 1) := by decide +kernel
end
section
set_option maxRecDepth 20000 in
theorem ggL_isInOrder_X2_cost : GoodIn wsL_isInOrder wsX2_cost := goodIn_r _ [5, 6, 7, 113, 114, 115, 116, 117, 118, 119, 120, 121, 122, 123, 124, 125, 126, 127, 128] (by decide +kernel) (by decide +kernel)
set_option maxRecDepth 20000 in
theorem gL_isInOrder_X2_cost : GoodIn wsL_isInOrder (wsV RL 8 RX2 yX2_cost wsX2_cost) := goodIn_app (goodIn_of _ (by decide +kernel)) ggL_isInOrder_X2_cost
set_option maxRecDepth 20000 in
theorem ggL_isInOrder_X2_hits : GoodIn wsL_isInOrder wsX2_hits := goodIn_r _ [11, 6, 12, 113, 114, 115, 116, 117, 118, 119, 120, 121, 122, 123, 124, 125, 126, 127, 128] (by decide +kernel) (by decide +kernel)
set_option maxRecDepth 20000 in
theorem gL_isInOrder_X2_hits : GoodIn wsL_isInOrder (wsV RL 14 RX2 yX2_hits wsX2_hits) := goodIn_app (goodIn_of _ (by decide +kernel)) ggL_isInOrder_X2_hits
set_option maxRecDepth 20000 in
theorem ggL_isInOrder_X2_swaps : GoodIn wsL_isInOrder wsX2_swaps := goodIn_r _ [16, 6, 17, 113, 114, 115, 116, 117, 118, 119, 120, 121, 122, 123, 124, 125, 126, 127, 128] (by decide +kernel) (by decide +kernel)
set_option maxRecDepth 20000 in
theorem gL_isInOrder_X2_swaps : GoodIn wsL_isInOrder (wsV RL 17 RX2 yX2_swaps wsX2_swaps) := goodIn_app (goodIn_of _ (by decide +kernel)) ggL_isInOrder_X2_swaps
set_option maxRecDepth 20000 in
theorem ggL_isInOrder_X2_misses : GoodIn wsL_isInOrder wsX2_misses := goodIn_r _ [21, 6, 22, 113, 114, 115, 116, 117, 118, 119, 120, 121, 122, 123, 124, 125, 126, 127, 128] (by decide +kernel) (by decide +kernel)
set_option maxRecDepth 20000 in
theorem gL_isInOrder_X2_misses : GoodIn wsL_isInOrder (wsV RL 20 RX2 yX2_misses wsX2_misses) := goodIn_app (goodIn_of _ (by decide +kernel)) ggL_isInOrder_X2_misses
set_option maxRecDepth 20000 in
theorem ggL_isInOrder_X2_homecomings : GoodIn wsL_isInOrder wsX2_homecomings := goodIn_r _ [26, 6, 27, 113, 114, 115, 116, 117, 118, 119, 120, 121, 122, 123, 124, 125, 126, 127, 128] (by decide +kernel) (by decide +kernel)
set_option maxRecDepth 20000 in
theorem gL_isInOrder_X2_homecomings : GoodIn wsL_isInOrder (wsV RL 23 RX2 yX2_homecomings wsX2_homecomings) := goodIn_app (goodIn_of _ (by decide +kernel)) ggL_isInOrder_X2_homecomings
set_option maxRecDepth 20000 in
theorem ggL_isInOrder_X2_sitting : GoodIn wsL_isInOrder wsX2_sitting := goodIn_r _ [31, 6, 32, 113, 114, 115, 116, 117, 118, 119, 120, 121, 122, 123, 124, 125, 126, 127, 128] (by decide +kernel) (by decide +kernel)
set_option maxRecDepth 20000 in
theorem gL_isInOrder_X2_sitting : GoodIn wsL_isInOrder (wsV RL 26 RX2 yX2_sitting wsX2_sitting) := goodIn_app (goodIn_of _ (by decide +kernel)) ggL_isInOrder_X2_sitting
set_option maxRecDepth 20000 in
theorem ggL_isInOrder_X2_places : GoodIn wsL_isInOrder wsX2_places := goodIn_r _ [36, 6, 37, 113, 114, 115, 116, 117, 118, 119, 120, 121, 122, 123, 124, 125, 126, 127, 128] (by decide +kernel) (by decide +kernel)
set_option maxRecDepth 20000 in
theorem gL_isInOrder_X2_places : GoodIn wsL_isInOrder (wsV RL 29 RX2 yX2_places wsX2_places) := goodIn_app (goodIn_of _ (by decide +kernel)) ggL_isInOrder_X2_places
set_option maxRecDepth 20000 in
theorem ggL_isInOrder_X2_sets : GoodIn wsL_isInOrder wsX2_sets := goodIn_r _ [41, 6, 42, 113, 114, 115, 116, 117, 118, 119, 120, 121, 122, 123, 124, 125, 126, 127, 128] (by decide +kernel) (by decide +kernel)
set_option maxRecDepth 20000 in
theorem gL_isInOrder_X2_sets : GoodIn wsL_isInOrder (wsV RL 32 RX2 yX2_sets wsX2_sets) := goodIn_app (goodIn_of _ (by decide +kernel)) ggL_isInOrder_X2_sets
set_option maxRecDepth 20000 in
theorem ggL_isInOrder_X2_lineIn : GoodIn wsL_isInOrder wsX2_lineIn := goodIn_ca (goodIn_r _ [46, 6, 47, 48, 49, 50, 4, 51, 52, 53, 42, 113, 114, 115, 116, 117, 118, 119, 120, 121, 122, 123, 124, 125, 126, 127, 128] (by decide +kernel) (by decide +kernel)) (goodIn_sub (fun _ h => List.mem_cons_of_mem _ (List.mem_append_right _ h)) (by decide +kernel))
set_option maxRecDepth 20000 in
theorem gL_isInOrder_X2_lineIn : GoodIn wsL_isInOrder (wsV RL 35 RX2 yX2_lineIn wsX2_lineIn) := goodIn_app (goodIn_of _ (by decide +kernel)) ggL_isInOrder_X2_lineIn
set_option maxRecDepth 20000 in
theorem ggL_isInOrder_X2_placeOf : GoodIn wsL_isInOrder wsX2_placeOf := goodIn_ca (goodIn_r _ [57, 6, 58, 59, 4, 60, 52, 53, 61, 62, 63, 64, 65, 66, 67, 68, 69, 70, 71, 72, 73, 74, 75, 76, 77, 113, 114, 115, 116, 117, 118, 119, 120, 121, 122, 123, 124, 125, 126, 127, 128] (by decide +kernel) (by decide +kernel)) (goodIn_sub (fun _ h => List.mem_cons_of_mem _ (List.mem_append_right _ h)) (by decide +kernel))
set_option maxRecDepth 20000 in
theorem gL_isInOrder_X2_placeOf : GoodIn wsL_isInOrder (wsV RL 39 RX2 yX2_placeOf wsX2_placeOf) := goodIn_app (goodIn_of _ (by decide +kernel)) ggL_isInOrder_X2_placeOf
set_option maxRecDepth 20000 in
theorem ggL_isInOrder_X2_lineOnBench : GoodIn wsL_isInOrder wsX2_lineOnBench := goodIn_ca (goodIn_r _ [81, 52, 53, 6, 32, 82, 113, 114, 115, 116, 117, 118, 119, 120, 121, 122, 123, 124, 125, 126, 127, 128] (by decide +kernel) (by decide +kernel)) (goodIn_sub (fun _ h => List.mem_cons_of_mem _ (List.mem_append_right _ h)) (by decide +kernel))
set_option maxRecDepth 20000 in
theorem gL_isInOrder_X2_lineOnBench : GoodIn wsL_isInOrder (wsV RL 42 RX2 yX2_lineOnBench wsX2_lineOnBench) := goodIn_app (goodIn_of _ (by decide +kernel)) ggL_isInOrder_X2_lineOnBench
set_option maxRecDepth 20000 in
theorem ggL_isInOrder_X2_isDirty : GoodIn wsL_isInOrder wsX2_isDirty := goodIn_ca (goodIn_r _ [86, 6, 87, 58, 59, 4, 60, 52, 53, 113, 114, 115, 116, 117, 118, 119, 120, 121, 122, 123, 124, 125, 126, 127, 128] (by decide +kernel) (by decide +kernel)) (goodIn_sub (fun _ h => List.mem_cons_of_mem _ (List.mem_append_right _ h)) (by decide +kernel))
set_option maxRecDepth 20000 in
theorem gL_isInOrder_X2_isDirty : GoodIn wsL_isInOrder (wsV RL 45 RX2 yX2_isDirty wsX2_isDirty) := goodIn_app (goodIn_of _ (by decide +kernel)) ggL_isInOrder_X2_isDirty
set_option maxRecDepth 20000 in
theorem ggL_isInOrder_X2_atHome : GoodIn wsL_isInOrder wsX2_atHome := goodIn_ca (goodIn_r _ [91, 6, 87, 92, 93, 94, 95, 4, 96, 52, 53, 97, 98, 99, 113, 114, 115, 116, 117, 118, 119, 120, 121, 122, 123, 124, 125, 126, 127, 128] (by decide +kernel) (by decide +kernel)) (goodIn_sub (fun _ h => List.mem_cons_of_mem _ (List.mem_append_right _ h)) (by decide +kernel))
set_option maxRecDepth 20000 in
theorem gL_isInOrder_X2_atHome : GoodIn wsL_isInOrder (wsV RL 49 RX2 yX2_atHome wsX2_atHome) := goodIn_app (goodIn_of _ (by decide +kernel)) ggL_isInOrder_X2_atHome
set_option maxRecDepth 20000 in
theorem ggL_isInOrder_X2_peek : GoodIn wsL_isInOrder wsX2_peek := goodIn_ca (goodIn_r _ [103, 93, 94, 95, 4, 96, 52, 53, 113, 114, 115, 116, 117] (by decide +kernel) (by decide +kernel)) (goodIn_sub (fun _ h => List.mem_cons_of_mem _ (List.mem_append_right _ h)) (by decide +kernel))
set_option maxRecDepth 20000 in
theorem gL_isInOrder_X2_peek : GoodIn wsL_isInOrder (wsV RL 52 RX2 yX2_peek wsX2_peek) := goodIn_app (goodIn_of _ (by decide +kernel)) ggL_isInOrder_X2_peek
set_option maxRecDepth 20000 in
theorem ggL_isInOrder_X2_dirty : GoodIn wsL_isInOrder wsX2_dirty := goodIn_r _ [107, 6, 108, 109, 110, 64, 111, 112, 113, 114, 115, 116, 117, 118, 119, 120, 121, 122, 123, 124, 125, 126, 127, 128] (by decide +kernel) (by decide +kernel)
set_option maxRecDepth 20000 in
theorem gL_isInOrder_X2_dirty : GoodIn wsL_isInOrder (wsV RL 55 RX2 yX2_dirty wsX2_dirty) := goodIn_app (goodIn_of _ (by decide +kernel)) ggL_isInOrder_X2_dirty
theorem dL_isInOrder_0 : decode cL_isInOrder 0 = .ok (.iconst 0, 1) := by decide +kernel
theorem dL_isInOrder_1 : decode cL_isInOrder 1 = .ok (.istore_n 1, 1) := by decide +kernel
theorem dL_isInOrder_2 : decode cL_isInOrder 2 = .ok (.iconst 0, 1) := by decide +kernel
theorem dL_isInOrder_3 : decode cL_isInOrder 3 = .ok (.istore_n 2, 1) := by decide +kernel
theorem dL_isInOrder_4 : decode cL_isInOrder 4 = .ok (.iconst 0, 1) := by decide +kernel
theorem dL_isInOrder_5 : decode cL_isInOrder 5 = .ok (.istore_n 3, 1) := by decide +kernel
theorem dL_isInOrder_6 : decode cL_isInOrder 6 = .ok (.aload_n 0, 1) := by decide +kernel
theorem dL_isInOrder_7 : decode cL_isInOrder 7 = .ok (.invokevirtual 8, 3) := by decide +kernel
theorem dL_isInOrder_10 : decode cL_isInOrder 10 = .ok (.aload_n 0, 1) := by decide +kernel
theorem dL_isInOrder_11 : decode cL_isInOrder 11 = .ok (.invokevirtual 14, 3) := by decide +kernel
theorem dL_isInOrder_14 : decode cL_isInOrder 14 = .ok (.iconst 3, 1) := by decide +kernel
theorem dL_isInOrder_15 : decode cL_isInOrder 15 = .ok (.aload_n 0, 1) := by decide +kernel
theorem dL_isInOrder_16 : decode cL_isInOrder 16 = .ok (.invokevirtual 17, 3) := by decide +kernel
theorem dL_isInOrder_19 : decode cL_isInOrder 19 = .ok (.imul, 1) := by decide +kernel
theorem dL_isInOrder_20 : decode cL_isInOrder 20 = .ok (.iadd, 1) := by decide +kernel
theorem dL_isInOrder_21 : decode cL_isInOrder 21 = .ok (.bipush 20, 2) := by decide +kernel
theorem dL_isInOrder_23 : decode cL_isInOrder 23 = .ok (.aload_n 0, 1) := by decide +kernel
theorem dL_isInOrder_24 : decode cL_isInOrder 24 = .ok (.invokevirtual 20, 3) := by decide +kernel
theorem dL_isInOrder_27 : decode cL_isInOrder 27 = .ok (.imul, 1) := by decide +kernel
theorem dL_isInOrder_28 : decode cL_isInOrder 28 = .ok (.iadd, 1) := by decide +kernel
theorem dL_isInOrder_29 : decode cL_isInOrder 29 = .ok (.bipush 10, 2) := by decide +kernel
theorem dL_isInOrder_31 : decode cL_isInOrder 31 = .ok (.aload_n 0, 1) := by decide +kernel
theorem dL_isInOrder_32 : decode cL_isInOrder 32 = .ok (.invokevirtual 23, 3) := by decide +kernel
theorem dL_isInOrder_35 : decode cL_isInOrder 35 = .ok (.imul, 1) := by decide +kernel
theorem dL_isInOrder_36 : decode cL_isInOrder 36 = .ok (.iadd, 1) := by decide +kernel
theorem dL_isInOrder_37 : decode cL_isInOrder 37 = .ok (.if_icmp .ne 18, 3) := by decide +kernel
theorem dL_isInOrder_40 : decode cL_isInOrder 40 = .ok (.aload_n 0, 1) := by decide +kernel
theorem dL_isInOrder_41 : decode cL_isInOrder 41 = .ok (.invokevirtual 26, 3) := by decide +kernel
theorem dL_isInOrder_44 : decode cL_isInOrder 44 = .ok (.aload_n 0, 1) := by decide +kernel
theorem dL_isInOrder_45 : decode cL_isInOrder 45 = .ok (.invokevirtual 29, 3) := by decide +kernel
theorem dL_isInOrder_48 : decode cL_isInOrder 48 = .ok (.if_icmp .gt 7, 3) := by decide +kernel
theorem dL_isInOrder_51 : decode cL_isInOrder 51 = .ok (.iconst 1, 1) := by decide +kernel
theorem dL_isInOrder_52 : decode cL_isInOrder 52 = .ok (.goto 4, 3) := by decide +kernel
theorem dL_isInOrder_55 : decode cL_isInOrder 55 = .ok (.iconst 0, 1) := by decide +kernel
theorem dL_isInOrder_56 : decode cL_isInOrder 56 = .ok (.istore 4, 2) := by decide +kernel
theorem dL_isInOrder_58 : decode cL_isInOrder 58 = .ok (.iconst 0, 1) := by decide +kernel
theorem dL_isInOrder_59 : decode cL_isInOrder 59 = .ok (.istore 5, 2) := by decide +kernel
theorem dL_isInOrder_61 : decode cL_isInOrder 61 = .ok (.iload 5, 2) := by decide +kernel
theorem dL_isInOrder_63 : decode cL_isInOrder 63 = .ok (.aload_n 0, 1) := by decide +kernel
theorem dL_isInOrder_64 : decode cL_isInOrder 64 = .ok (.invokevirtual 32, 3) := by decide +kernel
theorem dL_isInOrder_67 : decode cL_isInOrder 67 = .ok (.if_icmp .ge 69, 3) := by decide +kernel
theorem dL_isInOrder_70 : decode cL_isInOrder 70 = .ok (.aload_n 0, 1) := by decide +kernel
theorem dL_isInOrder_71 : decode cL_isInOrder 71 = .ok (.iload 5, 2) := by decide +kernel
theorem dL_isInOrder_73 : decode cL_isInOrder 73 = .ok (.invokevirtual 35, 3) := by decide +kernel
theorem dL_isInOrder_76 : decode cL_isInOrder 76 = .ok (.istore 6, 2) := by decide +kernel
theorem dL_isInOrder_78 : decode cL_isInOrder 78 = .ok (.iload_n 1, 1) := by decide +kernel
theorem dL_isInOrder_79 : decode cL_isInOrder 79 = .ok (.iload 6, 2) := by decide +kernel
theorem dL_isInOrder_81 : decode cL_isInOrder 81 = .ok (.ifCond .lt 7, 3) := by decide +kernel
theorem dL_isInOrder_84 : decode cL_isInOrder 84 = .ok (.iconst 1, 1) := by decide +kernel
theorem dL_isInOrder_85 : decode cL_isInOrder 85 = .ok (.goto 4, 3) := by decide +kernel
theorem dL_isInOrder_88 : decode cL_isInOrder 88 = .ok (.iconst 0, 1) := by decide +kernel
theorem dL_isInOrder_89 : decode cL_isInOrder 89 = .ok (.iadd, 1) := by decide +kernel
theorem dL_isInOrder_90 : decode cL_isInOrder 90 = .ok (.istore_n 1, 1) := by decide +kernel
theorem dL_isInOrder_91 : decode cL_isInOrder 91 = .ok (.iload 4, 2) := by decide +kernel
theorem dL_isInOrder_93 : decode cL_isInOrder 93 = .ok (.ifCond .eq 34, 3) := by decide +kernel
theorem dL_isInOrder_96 : decode cL_isInOrder 96 = .ok (.iload 6, 2) := by decide +kernel
theorem dL_isInOrder_98 : decode cL_isInOrder 98 = .ok (.ifCond .lt 25, 3) := by decide +kernel
theorem dL_isInOrder_101 : decode cL_isInOrder 101 = .ok (.iload 6, 2) := by decide +kernel
theorem dL_isInOrder_103 : decode cL_isInOrder 103 = .ok (.aload_n 0, 1) := by decide +kernel
theorem dL_isInOrder_104 : decode cL_isInOrder 104 = .ok (.invokevirtual 32, 3) := by decide +kernel
theorem dL_isInOrder_107 : decode cL_isInOrder 107 = .ok (.irem, 1) := by decide +kernel
theorem dL_isInOrder_108 : decode cL_isInOrder 108 = .ok (.iload 5, 2) := by decide +kernel
theorem dL_isInOrder_110 : decode cL_isInOrder 110 = .ok (.if_icmp .ne 17, 3) := by decide +kernel
theorem dL_isInOrder_113 : decode cL_isInOrder 113 = .ok (.aload_n 0, 1) := by decide +kernel
theorem dL_isInOrder_114 : decode cL_isInOrder 114 = .ok (.iload 6, 2) := by decide +kernel
theorem dL_isInOrder_116 : decode cL_isInOrder 116 = .ok (.invokevirtual 39, 3) := by decide +kernel
theorem dL_isInOrder_119 : decode cL_isInOrder 119 = .ok (.iconst 1, 1) := by decide +kernel
theorem dL_isInOrder_120 : decode cL_isInOrder 120 = .ok (.if_icmp .ne 7, 3) := by decide +kernel
theorem dL_isInOrder_123 : decode cL_isInOrder 123 = .ok (.iconst 1, 1) := by decide +kernel
theorem dL_isInOrder_124 : decode cL_isInOrder 124 = .ok (.goto 4, 3) := by decide +kernel
theorem dL_isInOrder_127 : decode cL_isInOrder 127 = .ok (.iconst 0, 1) := by decide +kernel
theorem dL_isInOrder_128 : decode cL_isInOrder 128 = .ok (.istore 4, 2) := by decide +kernel
theorem dL_isInOrder_130 : decode cL_isInOrder 130 = .ok (.iinc 5 1, 3) := by decide +kernel
theorem dL_isInOrder_133 : decode cL_isInOrder 133 = .ok (.goto (-72), 3) := by decide +kernel
theorem dL_isInOrder_136 : decode cL_isInOrder 136 = .ok (.iconst 0, 1) := by decide +kernel
theorem dL_isInOrder_137 : decode cL_isInOrder 137 = .ok (.istore 5, 2) := by decide +kernel
theorem dL_isInOrder_139 : decode cL_isInOrder 139 = .ok (.iload 5, 2) := by decide +kernel
theorem dL_isInOrder_141 : decode cL_isInOrder 141 = .ok (.aload_n 0, 1) := by decide +kernel
theorem dL_isInOrder_142 : decode cL_isInOrder 142 = .ok (.invokevirtual 26, 3) := by decide +kernel
theorem dL_isInOrder_145 : decode cL_isInOrder 145 = .ok (.if_icmp .ge 99, 3) := by decide +kernel
theorem dL_isInOrder_148 : decode cL_isInOrder 148 = .ok (.aload_n 0, 1) := by decide +kernel
theorem dL_isInOrder_149 : decode cL_isInOrder 149 = .ok (.iload 5, 2) := by decide +kernel
theorem dL_isInOrder_151 : decode cL_isInOrder 151 = .ok (.invokevirtual 42, 3) := by decide +kernel
theorem dL_isInOrder_154 : decode cL_isInOrder 154 = .ok (.istore 6, 2) := by decide +kernel
theorem dL_isInOrder_156 : decode cL_isInOrder 156 = .ok (.iload 4, 2) := by decide +kernel
theorem dL_isInOrder_158 : decode cL_isInOrder 158 = .ok (.ifCond .eq 33, 3) := by decide +kernel
theorem dL_isInOrder_161 : decode cL_isInOrder 161 = .ok (.aload_n 0, 1) := by decide +kernel
theorem dL_isInOrder_162 : decode cL_isInOrder 162 = .ok (.iload 6, 2) := by decide +kernel
theorem dL_isInOrder_164 : decode cL_isInOrder 164 = .ok (.invokevirtual 39, 3) := by decide +kernel
theorem dL_isInOrder_167 : decode cL_isInOrder 167 = .ok (.iconst 2, 1) := by decide +kernel
theorem dL_isInOrder_168 : decode cL_isInOrder 168 = .ok (.if_icmp .ne 23, 3) := by decide +kernel
theorem dL_isInOrder_171 : decode cL_isInOrder 171 = .ok (.aload_n 0, 1) := by decide +kernel
theorem dL_isInOrder_172 : decode cL_isInOrder 172 = .ok (.iload 6, 2) := by decide +kernel
theorem dL_isInOrder_174 : decode cL_isInOrder 174 = .ok (.aload_n 0, 1) := by decide +kernel
theorem dL_isInOrder_175 : decode cL_isInOrder 175 = .ok (.invokevirtual 32, 3) := by decide +kernel
theorem dL_isInOrder_178 : decode cL_isInOrder 178 = .ok (.irem, 1) := by decide +kernel
theorem dL_isInOrder_179 : decode cL_isInOrder 179 = .ok (.invokevirtual 35, 3) := by decide +kernel
theorem dL_isInOrder_182 : decode cL_isInOrder 182 = .ok (.iload 6, 2) := by decide +kernel
theorem dL_isInOrder_184 : decode cL_isInOrder 184 = .ok (.if_icmp .eq 7, 3) := by decide +kernel
theorem dL_isInOrder_187 : decode cL_isInOrder 187 = .ok (.iconst 1, 1) := by decide +kernel
theorem dL_isInOrder_188 : decode cL_isInOrder 188 = .ok (.goto 4, 3) := by decide +kernel
theorem dL_isInOrder_191 : decode cL_isInOrder 191 = .ok (.iconst 0, 1) := by decide +kernel
theorem dL_isInOrder_192 : decode cL_isInOrder 192 = .ok (.istore 4, 2) := by decide +kernel
theorem dL_isInOrder_194 : decode cL_isInOrder 194 = .ok (.iload 5, 2) := by decide +kernel
theorem dL_isInOrder_196 : decode cL_isInOrder 196 = .ok (.iconst 1, 1) := by decide +kernel
theorem dL_isInOrder_197 : decode cL_isInOrder 197 = .ok (.iadd, 1) := by decide +kernel
theorem dL_isInOrder_198 : decode cL_isInOrder 198 = .ok (.istore 7, 2) := by decide +kernel
theorem dL_isInOrder_200 : decode cL_isInOrder 200 = .ok (.iload 7, 2) := by decide +kernel
theorem dL_isInOrder_202 : decode cL_isInOrder 202 = .ok (.aload_n 0, 1) := by decide +kernel
theorem dL_isInOrder_203 : decode cL_isInOrder 203 = .ok (.invokevirtual 26, 3) := by decide +kernel
theorem dL_isInOrder_206 : decode cL_isInOrder 206 = .ok (.if_icmp .ge 32, 3) := by decide +kernel
theorem dL_isInOrder_209 : decode cL_isInOrder 209 = .ok (.iload 4, 2) := by decide +kernel
theorem dL_isInOrder_211 : decode cL_isInOrder 211 = .ok (.ifCond .eq 18, 3) := by decide +kernel
theorem dL_isInOrder_214 : decode cL_isInOrder 214 = .ok (.aload_n 0, 1) := by decide +kernel
theorem dL_isInOrder_215 : decode cL_isInOrder 215 = .ok (.iload 7, 2) := by decide +kernel
theorem dL_isInOrder_217 : decode cL_isInOrder 217 = .ok (.invokevirtual 42, 3) := by decide +kernel
theorem dL_isInOrder_220 : decode cL_isInOrder 220 = .ok (.iload 6, 2) := by decide +kernel
theorem dL_isInOrder_222 : decode cL_isInOrder 222 = .ok (.if_icmp .eq 7, 3) := by decide +kernel
theorem dL_isInOrder_225 : decode cL_isInOrder 225 = .ok (.iconst 1, 1) := by decide +kernel
theorem dL_isInOrder_226 : decode cL_isInOrder 226 = .ok (.goto 4, 3) := by decide +kernel
theorem dL_isInOrder_229 : decode cL_isInOrder 229 = .ok (.iconst 0, 1) := by decide +kernel
theorem dL_isInOrder_230 : decode cL_isInOrder 230 = .ok (.istore 4, 2) := by decide +kernel
theorem dL_isInOrder_232 : decode cL_isInOrder 232 = .ok (.iinc 7 1, 3) := by decide +kernel
theorem dL_isInOrder_235 : decode cL_isInOrder 235 = .ok (.goto (-35), 3) := by decide +kernel
theorem dL_isInOrder_238 : decode cL_isInOrder 238 = .ok (.iinc 5 1, 3) := by decide +kernel
theorem dL_isInOrder_241 : decode cL_isInOrder 241 = .ok (.goto (-102), 3) := by decide +kernel
theorem dL_isInOrder_244 : decode cL_isInOrder 244 = .ok (.iconst 0, 1) := by decide +kernel
theorem dL_isInOrder_245 : decode cL_isInOrder 245 = .ok (.istore 5, 2) := by decide +kernel
theorem dL_isInOrder_247 : decode cL_isInOrder 247 = .ok (.iload 5, 2) := by decide +kernel
theorem dL_isInOrder_249 : decode cL_isInOrder 249 = .ok (.sipush 256, 3) := by decide +kernel
theorem dL_isInOrder_252 : decode cL_isInOrder 252 = .ok (.if_icmp .ge 147, 3) := by decide +kernel
theorem dL_isInOrder_255 : decode cL_isInOrder 255 = .ok (.aload_n 0, 1) := by decide +kernel
theorem dL_isInOrder_256 : decode cL_isInOrder 256 = .ok (.iload 5, 2) := by decide +kernel
theorem dL_isInOrder_258 : decode cL_isInOrder 258 = .ok (.invokevirtual 39, 3) := by decide +kernel
theorem dL_isInOrder_261 : decode cL_isInOrder 261 = .ok (.istore 6, 2) := by decide +kernel
theorem dL_isInOrder_263 : decode cL_isInOrder 263 = .ok (.iload_n 1, 1) := by decide +kernel
theorem dL_isInOrder_264 : decode cL_isInOrder 264 = .ok (.iload 6, 2) := by decide +kernel
theorem dL_isInOrder_266 : decode cL_isInOrder 266 = .ok (.iconst 1, 1) := by decide +kernel
theorem dL_isInOrder_267 : decode cL_isInOrder 267 = .ok (.if_icmp .ne 7, 3) := by decide +kernel
theorem dL_isInOrder_270 : decode cL_isInOrder 270 = .ok (.iconst 1, 1) := by decide +kernel
theorem dL_isInOrder_271 : decode cL_isInOrder 271 = .ok (.goto 4, 3) := by decide +kernel
theorem dL_isInOrder_274 : decode cL_isInOrder 274 = .ok (.iconst 0, 1) := by decide +kernel
theorem dL_isInOrder_275 : decode cL_isInOrder 275 = .ok (.isub, 1) := by decide +kernel
theorem dL_isInOrder_276 : decode cL_isInOrder 276 = .ok (.istore_n 1, 1) := by decide +kernel
theorem dL_isInOrder_277 : decode cL_isInOrder 277 = .ok (.iload_n 2, 1) := by decide +kernel
theorem dL_isInOrder_278 : decode cL_isInOrder 278 = .ok (.iload 6, 2) := by decide +kernel
theorem dL_isInOrder_280 : decode cL_isInOrder 280 = .ok (.iconst 2, 1) := by decide +kernel
theorem dL_isInOrder_281 : decode cL_isInOrder 281 = .ok (.if_icmp .ne 7, 3) := by decide +kernel
theorem dL_isInOrder_284 : decode cL_isInOrder 284 = .ok (.iconst 1, 1) := by decide +kernel
theorem dL_isInOrder_285 : decode cL_isInOrder 285 = .ok (.goto 4, 3) := by decide +kernel
theorem dL_isInOrder_288 : decode cL_isInOrder 288 = .ok (.iconst 0, 1) := by decide +kernel
theorem dL_isInOrder_289 : decode cL_isInOrder 289 = .ok (.iadd, 1) := by decide +kernel
theorem dL_isInOrder_290 : decode cL_isInOrder 290 = .ok (.istore_n 2, 1) := by decide +kernel
theorem dL_isInOrder_291 : decode cL_isInOrder 291 = .ok (.iload_n 3, 1) := by decide +kernel
theorem dL_isInOrder_292 : decode cL_isInOrder 292 = .ok (.aload_n 0, 1) := by decide +kernel
theorem dL_isInOrder_293 : decode cL_isInOrder 293 = .ok (.iload 5, 2) := by decide +kernel
theorem dL_isInOrder_295 : decode cL_isInOrder 295 = .ok (.invokevirtual 45, 3) := by decide +kernel
theorem dL_isInOrder_298 : decode cL_isInOrder 298 = .ok (.ifCond .eq 7, 3) := by decide +kernel
theorem dL_isInOrder_301 : decode cL_isInOrder 301 = .ok (.iconst 1, 1) := by decide +kernel
theorem dL_isInOrder_302 : decode cL_isInOrder 302 = .ok (.goto 4, 3) := by decide +kernel
theorem dL_isInOrder_305 : decode cL_isInOrder 305 = .ok (.iconst 0, 1) := by decide +kernel
theorem dL_isInOrder_306 : decode cL_isInOrder 306 = .ok (.iadd, 1) := by decide +kernel
theorem dL_isInOrder_307 : decode cL_isInOrder 307 = .ok (.istore_n 3, 1) := by decide +kernel
theorem dL_isInOrder_308 : decode cL_isInOrder 308 = .ok (.iload 4, 2) := by decide +kernel
theorem dL_isInOrder_310 : decode cL_isInOrder 310 = .ok (.ifCond .eq 21, 3) := by decide +kernel
theorem dL_isInOrder_313 : decode cL_isInOrder 313 = .ok (.iload 6, 2) := by decide +kernel
theorem dL_isInOrder_315 : decode cL_isInOrder 315 = .ok (.ifCond .gt 12, 3) := by decide +kernel
theorem dL_isInOrder_318 : decode cL_isInOrder 318 = .ok (.aload_n 0, 1) := by decide +kernel
theorem dL_isInOrder_319 : decode cL_isInOrder 319 = .ok (.iload 5, 2) := by decide +kernel
theorem dL_isInOrder_321 : decode cL_isInOrder 321 = .ok (.invokevirtual 45, 3) := by decide +kernel
theorem dL_isInOrder_324 : decode cL_isInOrder 324 = .ok (.ifCond .ne 7, 3) := by decide +kernel
theorem dL_isInOrder_327 : decode cL_isInOrder 327 = .ok (.iconst 1, 1) := by decide +kernel
theorem dL_isInOrder_328 : decode cL_isInOrder 328 = .ok (.goto 4, 3) := by decide +kernel
theorem dL_isInOrder_331 : decode cL_isInOrder 331 = .ok (.iconst 0, 1) := by decide +kernel
theorem dL_isInOrder_332 : decode cL_isInOrder 332 = .ok (.istore 4, 2) := by decide +kernel
theorem dL_isInOrder_334 : decode cL_isInOrder 334 = .ok (.iconst 4, 1) := by decide +kernel
theorem dL_isInOrder_335 : decode cL_isInOrder 335 = .ok (.iload 5, 2) := by decide +kernel
theorem dL_isInOrder_337 : decode cL_isInOrder 337 = .ok (.imul, 1) := by decide +kernel
theorem dL_isInOrder_338 : decode cL_isInOrder 338 = .ok (.istore 7, 2) := by decide +kernel
theorem dL_isInOrder_340 : decode cL_isInOrder 340 = .ok (.iload 7, 2) := by decide +kernel
theorem dL_isInOrder_342 : decode cL_isInOrder 342 = .ok (.iconst 4, 1) := by decide +kernel
theorem dL_isInOrder_343 : decode cL_isInOrder 343 = .ok (.iload 5, 2) := by decide +kernel
theorem dL_isInOrder_345 : decode cL_isInOrder 345 = .ok (.imul, 1) := by decide +kernel
theorem dL_isInOrder_346 : decode cL_isInOrder 346 = .ok (.iconst 4, 1) := by decide +kernel
theorem dL_isInOrder_347 : decode cL_isInOrder 347 = .ok (.iadd, 1) := by decide +kernel
theorem dL_isInOrder_348 : decode cL_isInOrder 348 = .ok (.if_icmp .ge 45, 3) := by decide +kernel
theorem dL_isInOrder_351 : decode cL_isInOrder 351 = .ok (.iload 4, 2) := by decide +kernel
theorem dL_isInOrder_353 : decode cL_isInOrder 353 = .ok (.ifCond .eq 31, 3) := by decide +kernel
theorem dL_isInOrder_356 : decode cL_isInOrder 356 = .ok (.aload_n 0, 1) := by decide +kernel
theorem dL_isInOrder_357 : decode cL_isInOrder 357 = .ok (.iload 5, 2) := by decide +kernel
theorem dL_isInOrder_359 : decode cL_isInOrder 359 = .ok (.invokevirtual 45, 3) := by decide +kernel
theorem dL_isInOrder_362 : decode cL_isInOrder 362 = .ok (.ifCond .ne 18, 3) := by decide +kernel
theorem dL_isInOrder_365 : decode cL_isInOrder 365 = .ok (.aload_n 0, 1) := by decide +kernel
theorem dL_isInOrder_366 : decode cL_isInOrder 366 = .ok (.iload 7, 2) := by decide +kernel
theorem dL_isInOrder_368 : decode cL_isInOrder 368 = .ok (.invokevirtual 49, 3) := by decide +kernel
theorem dL_isInOrder_371 : decode cL_isInOrder 371 = .ok (.aload_n 0, 1) := by decide +kernel
theorem dL_isInOrder_372 : decode cL_isInOrder 372 = .ok (.iload 7, 2) := by decide +kernel
theorem dL_isInOrder_374 : decode cL_isInOrder 374 = .ok (.invokevirtual 52, 3) := by decide +kernel
theorem dL_isInOrder_377 : decode cL_isInOrder 377 = .ok (.if_icmp .ne 7, 3) := by decide +kernel
theorem dL_isInOrder_380 : decode cL_isInOrder 380 = .ok (.iconst 1, 1) := by decide +kernel
theorem dL_isInOrder_381 : decode cL_isInOrder 381 = .ok (.goto 4, 3) := by decide +kernel
theorem dL_isInOrder_384 : decode cL_isInOrder 384 = .ok (.iconst 0, 1) := by decide +kernel
theorem dL_isInOrder_385 : decode cL_isInOrder 385 = .ok (.istore 4, 2) := by decide +kernel
theorem dL_isInOrder_387 : decode cL_isInOrder 387 = .ok (.iinc 7 1, 3) := by decide +kernel
theorem dL_isInOrder_390 : decode cL_isInOrder 390 = .ok (.goto (-50), 3) := by decide +kernel
theorem dL_isInOrder_393 : decode cL_isInOrder 393 = .ok (.iinc 5 1, 3) := by decide +kernel
theorem dL_isInOrder_396 : decode cL_isInOrder 396 = .ok (.goto (-149), 3) := by decide +kernel
theorem dL_isInOrder_399 : decode cL_isInOrder 399 = .ok (.iload 4, 2) := by decide +kernel
theorem dL_isInOrder_401 : decode cL_isInOrder 401 = .ok (.ifCond .eq 27, 3) := by decide +kernel
theorem dL_isInOrder_404 : decode cL_isInOrder 404 = .ok (.iload_n 1, 1) := by decide +kernel
theorem dL_isInOrder_405 : decode cL_isInOrder 405 = .ok (.ifCond .ne 23, 3) := by decide +kernel
theorem dL_isInOrder_408 : decode cL_isInOrder 408 = .ok (.iload_n 2, 1) := by decide +kernel
theorem dL_isInOrder_409 : decode cL_isInOrder 409 = .ok (.aload_n 0, 1) := by decide +kernel
theorem dL_isInOrder_410 : decode cL_isInOrder 410 = .ok (.invokevirtual 26, 3) := by decide +kernel
theorem dL_isInOrder_413 : decode cL_isInOrder 413 = .ok (.if_icmp .ne 15, 3) := by decide +kernel
theorem dL_isInOrder_416 : decode cL_isInOrder 416 = .ok (.iload_n 3, 1) := by decide +kernel
theorem dL_isInOrder_417 : decode cL_isInOrder 417 = .ok (.aload_n 0, 1) := by decide +kernel
theorem dL_isInOrder_418 : decode cL_isInOrder 418 = .ok (.invokevirtual 55, 3) := by decide +kernel
theorem dL_isInOrder_421 : decode cL_isInOrder 421 = .ok (.if_icmp .ne 7, 3) := by decide +kernel
theorem dL_isInOrder_424 : decode cL_isInOrder 424 = .ok (.iconst 1, 1) := by decide +kernel
theorem dL_isInOrder_425 : decode cL_isInOrder 425 = .ok (.goto 4, 3) := by decide +kernel
theorem dL_isInOrder_428 : decode cL_isInOrder 428 = .ok (.iconst 0, 1) := by decide +kernel
theorem dL_isInOrder_429 : decode cL_isInOrder 429 = .ok (.ireturn, 1) := by decide +kernel
theorem dL_address_0 : decode cL_address 0 = .ok (.sipush 128, 3) := by decide +kernel
theorem dL_address_3 : decode cL_address 3 = .ok (.iload_n 0, 1) := by decide +kernel
theorem dL_address_4 : decode cL_address 4 = .ok (.bipush 8, 2) := by decide +kernel
theorem dL_address_6 : decode cL_address 6 = .ok (.idiv, 1) := by decide +kernel
theorem dL_address_7 : decode cL_address 7 = .ok (.imul, 1) := by decide +kernel
theorem dL_address_8 : decode cL_address 8 = .ok (.iload_n 0, 1) := by decide +kernel
theorem dL_address_9 : decode cL_address 9 = .ok (.bipush 8, 2) := by decide +kernel
theorem dL_address_11 : decode cL_address 11 = .ok (.irem, 1) := by decide +kernel
theorem dL_address_12 : decode cL_address 12 = .ok (.iadd, 1) := by decide +kernel
theorem dL_address_13 : decode cL_address 13 = .ok (.iload_n 0, 1) := by decide +kernel
theorem dL_address_14 : decode cL_address 14 = .ok (.bipush 8, 2) := by decide +kernel
theorem dL_address_16 : decode cL_address 16 = .ok (.idiv, 1) := by decide +kernel
theorem dL_address_17 : decode cL_address 17 = .ok (.iadd, 1) := by decide +kernel
theorem dL_address_18 : decode cL_address 18 = .ok (.ireturn, 1) := by decide +kernel
set_option maxRecDepth 20000 in
theorem ggL_law_X2_init : GoodIn wsL_law wsX2_init := goodIn_r _ [6, 7, 8, 9, 3, 10, 11, 12, 13, 14, 15, 16, 17, 18, 19, 20, 21, 22, 23, 24, 25, 26, 27, 28, 29, 30, 31, 32, 33, 34, 35, 36, 37, 38, 39, 40, 41, 42, 43, 44, 261, 262, 263, 264, 265, 266, 267, 268, 269, 270, 271, 272, 273, 274, 275, 276, 277, 278, 279, 280] (by decide +kernel) (by decide +kernel)
set_option maxRecDepth 20000 in
theorem gL_law_X2_init : GoodIn wsL_law (wsX2_init) := ggL_law_X2_init
set_option maxRecDepth 20000 in
theorem ggL_law_L_drawn : GoodIn wsL_law wsL_drawn := goodIn_r _ [48, 49] (by decide +kernel) (by decide +kernel)
set_option maxRecDepth 20000 in
theorem gL_law_L_drawn : GoodIn wsL_law (va_wsS RL 59 yL_drawn wsL_drawn) := goodIn_app (goodIn_of _ (by decide +kernel)) ggL_law_L_drawn
set_option maxRecDepth 20000 in
theorem ggL_law_X2_hits : GoodIn wsL_law wsX2_hits := goodIn_r _ [53, 15, 54, 261, 262, 263, 264, 265, 266, 267, 268, 269, 270, 271, 272, 273, 274, 275, 276] (by decide +kernel) (by decide +kernel)
set_option maxRecDepth 20000 in
theorem gL_law_X2_hits : GoodIn wsL_law (wsV RL 14 RX2 yX2_hits wsX2_hits) := goodIn_app (goodIn_of _ (by decide +kernel)) ggL_law_X2_hits
set_option maxRecDepth 20000 in
theorem ggL_law_X2_cost : GoodIn wsL_law wsX2_cost := goodIn_r _ [58, 15, 59, 261, 262, 263, 264, 265, 266, 267, 268, 269, 270, 271, 272, 273, 274, 275, 276] (by decide +kernel) (by decide +kernel)
set_option maxRecDepth 20000 in
theorem gL_law_X2_cost : GoodIn wsL_law (wsV RL 8 RX2 yX2_cost wsX2_cost) := goodIn_app (goodIn_of _ (by decide +kernel)) ggL_law_X2_cost
set_option maxRecDepth 20000 in
theorem ggL_law_L_address : GoodIn wsL_law wsL_address := goodIn_r _ [62] (by decide +kernel) (by decide +kernel)
set_option maxRecDepth 20000 in
theorem gL_law_L_address : GoodIn wsL_law (va_wsS RL 65 yL_address wsL_address) := goodIn_app (goodIn_of _ (by decide +kernel)) ggL_law_L_address
set_option maxRecDepth 20000 in
theorem ggL_law_X2_placeOf : GoodIn wsL_law wsX2_placeOf := goodIn_ca (goodIn_r _ [66, 15, 67, 68, 2, 69, 70, 71, 72, 73, 74, 14, 75, 25, 76, 77, 78, 79, 33, 80, 81, 82, 83, 35, 26, 261, 262, 263, 264, 265, 266, 267, 268, 269, 270, 271, 272, 273, 274, 275, 276] (by decide +kernel) (by decide +kernel)) (goodIn_sub (fun _ h => List.mem_append_left _ (List.mem_append_left _ (List.mem_append_right _ h))) (by decide +kernel))
set_option maxRecDepth 20000 in
theorem gL_law_X2_placeOf : GoodIn wsL_law (wsV RL 39 RX2 yX2_placeOf wsX2_placeOf) := goodIn_app (goodIn_of _ (by decide +kernel)) ggL_law_X2_placeOf
set_option maxRecDepth 20000 in
theorem ggL_law_X2_read : GoodIn wsL_law wsX2_read := goodIn_ca (goodIn_r _ [87, 10, 88, 89, 2, 90, 70, 71, 91, 92, 93, 94, 95, 96, 97, 15, 20, 98, 99, 100, 14, 101, 25, 102, 103, 104, 105, 28, 76, 77, 78, 79, 33, 80, 81, 82, 83, 35, 26, 106, 107, 108, 109, 110, 111, 112, 113, 34, 114, 115, 116, 117, 118, 119, 120, 121, 19, 122, 43, 123, 44, 124, 261, 262, 263, 264, 265, 266, 267, 268, 269, 270, 271, 272, 273, 274, 275, 276, 277, 278, 279, 280] (by decide +kernel) (by decide +kernel)) (goodIn_sub (fun _ h => List.mem_append_left _ (List.mem_append_left _ (List.mem_append_right _ h))) (by decide +kernel))
set_option maxRecDepth 20000 in
theorem gL_law_X2_read : GoodIn wsL_law (wsV RL 68 RX2 yX2_read wsX2_read) := goodIn_app (goodIn_of _ (by decide +kernel)) ggL_law_X2_read
set_option maxRecDepth 20000 in
theorem ggL_law_X2_write : GoodIn wsL_law wsX2_write := goodIn_ca (goodIn_r _ [128, 15, 129, 10, 88, 89, 2, 90, 70, 71, 91, 92, 93, 130, 131, 132, 133, 11, 134, 135, 136, 137, 94, 95, 96, 97, 20, 98, 99, 100, 14, 101, 25, 102, 103, 104, 105, 28, 76, 77, 78, 79, 33, 80, 81, 82, 83, 35, 26, 106, 107, 108, 109, 110, 111, 112, 113, 34, 114, 115, 116, 117, 118, 119, 120, 121, 19, 122, 43, 123, 44, 124, 261, 262, 263, 264, 265, 266, 267, 268, 269, 270, 271, 272, 273, 274, 275, 276, 277, 278, 279, 280] (by decide +kernel) (by decide +kernel)) (goodIn_sub (fun _ h => List.mem_append_left _ (List.mem_append_left _ (List.mem_append_right _ h))) (by decide +kernel))
set_option maxRecDepth 20000 in
theorem gL_law_X2_write : GoodIn wsL_law (wsV RL 71 RX2 yX2_write wsX2_write) := goodIn_app (goodIn_of _ (by decide +kernel)) ggL_law_X2_write
set_option maxRecDepth 20000 in
theorem ggL_law_X2_isDirty : GoodIn wsL_law wsX2_isDirty := goodIn_ca (goodIn_r _ [141, 15, 129, 67, 68, 2, 69, 70, 71, 261, 262, 263, 264, 265, 266, 267, 268, 269, 270, 271, 272, 273, 274, 275, 276] (by decide +kernel) (by decide +kernel)) (goodIn_sub (fun _ h => List.mem_append_left _ (List.mem_append_left _ (List.mem_append_right _ h))) (by decide +kernel))
set_option maxRecDepth 20000 in
theorem gL_law_X2_isDirty : GoodIn wsL_law (wsV RL 45 RX2 yX2_isDirty wsX2_isDirty) := goodIn_app (goodIn_of _ (by decide +kernel)) ggL_law_X2_isDirty
set_option maxRecDepth 20000 in
theorem ggL_law_X2_peek : GoodIn wsL_law wsX2_peek := goodIn_ca (goodIn_r _ [145, 10, 88, 89, 2, 90, 70, 71, 261, 262, 263, 264, 265] (by decide +kernel) (by decide +kernel)) (goodIn_sub (fun _ h => List.mem_append_left _ (List.mem_append_left _ (List.mem_append_right _ h))) (by decide +kernel))
set_option maxRecDepth 20000 in
theorem gL_law_X2_peek : GoodIn wsL_law (wsV RL 52 RX2 yX2_peek wsX2_peek) := goodIn_app (goodIn_of _ (by decide +kernel)) ggL_law_X2_peek
set_option maxRecDepth 20000 in
theorem ggL_law_X2_walk : GoodIn wsL_law wsX2_walk := goodIn_ca (goodIn_ca (goodIn_r _ [149, 150, 151, 15, 59, 88, 89, 2, 90, 70, 71, 91, 92, 93, 94, 95, 96, 97, 20, 98, 99, 100, 14, 101, 25, 102, 103, 104, 105, 28, 76, 77, 78, 79, 33, 80, 81, 82, 83, 35, 26, 106, 107, 108, 109, 110, 111, 112, 113, 34, 114, 115, 116, 117, 118, 119, 120, 121, 19, 122, 43, 123, 44, 124, 152, 153, 154, 155, 261, 262, 263, 264, 265, 266, 267, 268, 269, 270, 271, 272, 273, 274, 275, 276, 277, 278, 279, 280] (by decide +kernel) (by decide +kernel)) (goodIn_sub (fun _ h => List.mem_append_left _ (List.mem_append_right _ h)) (by decide +kernel))) (goodIn_sub (fun _ h => List.mem_append_left _ (List.mem_append_left _ (List.mem_append_right _ h))) (by decide +kernel))
set_option maxRecDepth 20000 in
theorem gL_law_X2_walk : GoodIn wsL_law (wsV RL 75 RX2 yX2_walk wsX2_walk) := goodIn_app (goodIn_of _ (by decide +kernel)) ggL_law_X2_walk
set_option maxRecDepth 20000 in
theorem ggL_law_X2_dirty : GoodIn wsL_law wsX2_dirty := goodIn_r _ [159, 15, 160, 161, 162, 14, 163, 28, 261, 262, 263, 264, 265, 266, 267, 268, 269, 270, 271, 272, 273, 274, 275, 276] (by decide +kernel) (by decide +kernel)
set_option maxRecDepth 20000 in
theorem gL_law_X2_dirty : GoodIn wsL_law (wsV RL 55 RX2 yX2_dirty wsX2_dirty) := goodIn_app (goodIn_of _ (by decide +kernel)) ggL_law_X2_dirty
set_option maxRecDepth 20000 in
theorem ggL_law_X2_bringHome : GoodIn wsL_law wsX2_bringHome := goodIn_r _ [167, 15, 168, 169, 170, 14, 171, 118, 33, 25, 35, 26, 114, 115, 116, 117, 28, 103, 261, 262, 263, 264, 265, 266, 267, 268, 269, 270, 271, 272, 273, 274, 275, 276] (by decide +kernel) (by decide +kernel)
set_option maxRecDepth 20000 in
theorem gL_law_X2_bringHome : GoodIn wsL_law (wsV RL 79 RX2 yX2_bringHome wsX2_bringHome) := goodIn_app (goodIn_of _ (by decide +kernel)) ggL_law_X2_bringHome
set_option maxRecDepth 20000 in
theorem ggL_law_X2_build : GoodIn wsL_law wsX2_build := goodIn_ca (goodIn_r _ [175, 15, 176, 177, 2, 178, 150, 151, 179, 180, 181, 14, 182, 35, 33, 25, 168, 169, 170, 171, 118, 26, 114, 115, 116, 117, 28, 103, 183, 30, 31, 32, 34, 36, 37, 38, 39, 261, 262, 263, 264, 265, 266, 267, 268, 269, 270, 271, 272, 273, 274, 275, 276] (by decide +kernel) (by decide +kernel)) (goodIn_sub (fun _ h => List.mem_append_left _ (List.mem_append_right _ h)) (by decide +kernel))
set_option maxRecDepth 20000 in
theorem gL_law_X2_build : GoodIn wsL_law (wsV RL 82 RX2 yX2_build wsX2_build) := goodIn_app (goodIn_of _ (by decide +kernel)) ggL_law_X2_build
set_option maxRecDepth 20000 in
theorem ggL_law_X2_sitting : GoodIn wsL_law wsX2_sitting := goodIn_r _ [187, 15, 188, 261, 262, 263, 264, 265, 266, 267, 268, 269, 270, 271, 272, 273, 274, 275, 276] (by decide +kernel) (by decide +kernel)
set_option maxRecDepth 20000 in
theorem gL_law_X2_sitting : GoodIn wsL_law (wsV RL 26 RX2 yX2_sitting wsX2_sitting) := goodIn_app (goodIn_of _ (by decide +kernel)) ggL_law_X2_sitting
set_option maxRecDepth 20000 in
theorem ggL_law_X2_sets : GoodIn wsL_law wsX2_sets := goodIn_r _ [192, 15, 193, 261, 262, 263, 264, 265, 266, 267, 268, 269, 270, 271, 272, 273, 274, 275, 276] (by decide +kernel) (by decide +kernel)
set_option maxRecDepth 20000 in
theorem gL_law_X2_sets : GoodIn wsL_law (wsV RL 32 RX2 yX2_sets wsX2_sets) := goodIn_app (goodIn_of _ (by decide +kernel)) ggL_law_X2_sets
set_option maxRecDepth 20000 in
theorem ggL_law_X2_lineIn : GoodIn wsL_law wsX2_lineIn := goodIn_ca (goodIn_r _ [197, 15, 198, 199, 200, 201, 2, 202, 70, 71, 193, 261, 262, 263, 264, 265, 266, 267, 268, 269, 270, 271, 272, 273, 274, 275, 276] (by decide +kernel) (by decide +kernel)) (goodIn_sub (fun _ h => List.mem_append_left _ (List.mem_append_left _ (List.mem_append_right _ h))) (by decide +kernel))
set_option maxRecDepth 20000 in
theorem gL_law_X2_lineIn : GoodIn wsL_law (wsV RL 35 RX2 yX2_lineIn wsX2_lineIn) := goodIn_app (goodIn_of _ (by decide +kernel)) ggL_law_X2_lineIn
set_option maxRecDepth 20000 in
theorem ggL_law_X2_cast : GoodIn wsL_law wsX2_cast := goodIn_ca (goodIn_ca (goodIn_r _ [206, 207, 208, 15, 198, 199, 200, 201, 2, 202, 70, 71, 193, 209, 111, 112, 14, 113, 25, 34, 35, 26, 114, 115, 116, 117, 28, 118, 103, 106, 107, 108, 109, 261, 262, 263, 264, 265, 266, 267, 268, 269, 270, 271, 272, 273, 274, 275, 276] (by decide +kernel) (by decide +kernel)) (goodIn_sub (fun _ h => List.mem_append_right _ h) (by decide +kernel))) (goodIn_sub (fun _ h => List.mem_append_left _ (List.mem_append_left _ (List.mem_append_right _ h))) (by decide +kernel))
set_option maxRecDepth 20000 in
theorem gL_law_X2_cast : GoodIn wsL_law (wsV RL 85 RX2 yX2_cast wsX2_cast) := goodIn_app (goodIn_of _ (by decide +kernel)) ggL_law_X2_cast
set_option maxRecDepth 20000 in
theorem ggL_law_X2_places : GoodIn wsL_law wsX2_places := goodIn_r _ [213, 15, 214, 261, 262, 263, 264, 265, 266, 267, 268, 269, 270, 271, 272, 273, 274, 275, 276] (by decide +kernel) (by decide +kernel)
set_option maxRecDepth 20000 in
theorem gL_law_X2_places : GoodIn wsL_law (wsV RL 29 RX2 yX2_places wsX2_places) := goodIn_app (goodIn_of _ (by decide +kernel)) ggL_law_X2_places
set_option maxRecDepth 20000 in
theorem ggL_law_X2_lineOnBench : GoodIn wsL_law wsX2_lineOnBench := goodIn_ca (goodIn_r _ [218, 70, 71, 15, 188, 219, 261, 262, 263, 264, 265, 266, 267, 268, 269, 270, 271, 272, 273, 274, 275, 276] (by decide +kernel) (by decide +kernel)) (goodIn_sub (fun _ h => List.mem_append_left _ (List.mem_append_left _ (List.mem_append_right _ h))) (by decide +kernel))
set_option maxRecDepth 20000 in
theorem gL_law_X2_lineOnBench : GoodIn wsL_law (wsV RL 42 RX2 yX2_lineOnBench wsX2_lineOnBench) := goodIn_app (goodIn_of _ (by decide +kernel)) ggL_law_X2_lineOnBench
set_option maxRecDepth 20000 in
theorem ggL_law_L_isInOrder : GoodIn wsL_law wsL_isInOrder := goodIn_ca (goodIn_r _ [222, 55, 56, 57, 2, 58, 15, 59, 50, 51, 52, 53, 54, 223, 224, 225, 226, 227, 228, 229, 230, 231, 232, 233, 234, 235, 236, 237, 184, 185, 186, 187, 188, 210, 211, 212, 213, 214, 189, 190, 191, 192, 193, 194, 195, 196, 197, 198, 199, 200, 201, 202, 70, 71, 63, 64, 65, 66, 67, 68, 69, 72, 73, 74, 14, 75, 25, 76, 77, 78, 79, 33, 80, 81, 82, 83, 35, 26, 215, 216, 217, 218, 219, 138, 139, 140, 141, 129, 238, 239, 240, 241, 11, 10, 88, 89, 90, 91, 92, 93, 142, 143, 144, 145, 156, 157, 158, 159, 160, 161, 162, 163, 28, 261, 262, 263, 264, 265, 266, 267, 268, 269, 270, 271, 272, 273, 274, 275, 276] (by decide +kernel) (by decide +kernel)) (goodIn_sub (fun _ h => List.mem_append_left _ (List.mem_append_left _ (List.mem_append_right _ h))) (by decide +kernel))
set_option maxRecDepth 20000 in
theorem gL_law_L_isInOrder : GoodIn wsL_law (va_wsS RL 88 yL_isInOrder wsL_isInOrder) := goodIn_app (goodIn_of _ (by decide +kernel)) ggL_law_L_isInOrder
set_option maxRecDepth 20000 in
theorem ggL_law_X2_swaps : GoodIn wsL_law wsX2_swaps := goodIn_r _ [226, 15, 227, 261, 262, 263, 264, 265, 266, 267, 268, 269, 270, 271, 272, 273, 274, 275, 276] (by decide +kernel) (by decide +kernel)
set_option maxRecDepth 20000 in
theorem gL_law_X2_swaps : GoodIn wsL_law (wsV RL 17 RX2 yX2_swaps wsX2_swaps) := goodIn_app (goodIn_of _ (by decide +kernel)) ggL_law_X2_swaps
set_option maxRecDepth 20000 in
theorem ggL_law_X2_misses : GoodIn wsL_law wsX2_misses := goodIn_r _ [231, 15, 232, 261, 262, 263, 264, 265, 266, 267, 268, 269, 270, 271, 272, 273, 274, 275, 276] (by decide +kernel) (by decide +kernel)
set_option maxRecDepth 20000 in
theorem gL_law_X2_misses : GoodIn wsL_law (wsV RL 20 RX2 yX2_misses wsX2_misses) := goodIn_app (goodIn_of _ (by decide +kernel)) ggL_law_X2_misses
set_option maxRecDepth 20000 in
theorem ggL_law_X2_atHome : GoodIn wsL_law wsX2_atHome := goodIn_ca (goodIn_r _ [241, 15, 129, 11, 10, 88, 89, 2, 90, 70, 71, 91, 92, 93, 261, 262, 263, 264, 265, 266, 267, 268, 269, 270, 271, 272, 273, 274, 275, 276] (by decide +kernel) (by decide +kernel)) (goodIn_sub (fun _ h => List.mem_append_left _ (List.mem_append_left _ (List.mem_append_right _ h))) (by decide +kernel))
set_option maxRecDepth 20000 in
theorem gL_law_X2_atHome : GoodIn wsL_law (wsV RL 49 RX2 yX2_atHome wsX2_atHome) := goodIn_app (goodIn_of _ (by decide +kernel)) ggL_law_X2_atHome
set_option maxRecDepth 20000 in
theorem ggL_law_X2_wouldCost : GoodIn wsL_law wsX2_wouldCost := goodIn_ca (goodIn_r _ [245, 176, 177, 2, 178, 150, 151, 246, 247, 248, 249, 16, 59, 20, 250, 251, 252, 183, 30, 31, 14, 32, 33, 34, 25, 35, 28, 36, 37, 38, 39, 253, 254, 255, 19, 256, 124, 123, 98, 99, 100, 101, 102, 103, 104, 105, 76, 77, 78, 79, 80, 81, 82, 83, 26, 106, 107, 108, 109, 110, 111, 112, 113, 114, 115, 116, 117, 118, 261, 262, 263, 264, 265, 266, 267, 268, 269, 270, 271, 272, 273, 274, 275, 276, 277, 278, 279, 280] (by decide +kernel) (by decide +kernel)) (goodIn_sub (fun _ h => List.mem_append_left _ (List.mem_append_right _ h)) (by decide +kernel))
set_option maxRecDepth 20000 in
theorem gL_law_X2_wouldCost : GoodIn wsL_law (wsV RL 92 RX2 yX2_wouldCost wsX2_wouldCost) := goodIn_app (goodIn_of _ (by decide +kernel)) ggL_law_X2_wouldCost
set_option maxRecDepth 20000 in
theorem ggL_law_X2_bestPlaces : GoodIn wsL_law wsX2_bestPlaces := goodIn_r _ [260, 15, 193, 246, 247, 248, 2, 249, 16, 59, 20, 250, 251, 252, 183, 30, 31, 14, 32, 33, 34, 25, 35, 28, 36, 37, 38, 39, 253, 254, 255, 19, 256, 124, 123, 98, 99, 100, 101, 102, 103, 104, 105, 76, 77, 78, 79, 80, 81, 82, 83, 26, 106, 107, 108, 109, 110, 111, 112, 113, 114, 115, 116, 117, 118, 261, 262, 263, 264, 265, 266, 267, 268, 269, 270, 271, 272, 273, 274, 275, 276, 277, 278, 279, 280] (by decide +kernel) (by decide +kernel)
set_option maxRecDepth 20000 in
theorem gL_law_X2_bestPlaces : GoodIn wsL_law (wsV RL 95 RX2 yX2_bestPlaces wsX2_bestPlaces) := goodIn_app (goodIn_of _ (by decide +kernel)) ggL_law_X2_bestPlaces
theorem dL_law_0 : decode cL_law 0 = .ok (.new 9, 3) := by decide +kernel
theorem dL_law_3 : decode cL_law 3 = .ok (.dup, 1) := by decide +kernel
theorem dL_law_4 : decode cL_law 4 = .ok (.invokespecial 58, 3) := by decide +kernel
theorem dL_law_7 : decode cL_law 7 = .ok (.astore_n 1, 1) := by decide +kernel
theorem dL_law_8 : decode cL_law 8 = .ok (.bipush 64, 2) := by decide +kernel
theorem dL_law_10 : decode cL_law 10 = .ok (.newarray .int, 2) := by decide +kernel
theorem dL_law_12 : decode cL_law 12 = .ok (.astore_n 2, 1) := by decide +kernel
theorem dL_law_13 : decode cL_law 13 = .ok (.iconst 1, 1) := by decide +kernel
theorem dL_law_14 : decode cL_law 14 = .ok (.istore_n 3, 1) := by decide +kernel
theorem dL_law_15 : decode cL_law 15 = .ok (.iconst 0, 1) := by decide +kernel
theorem dL_law_16 : decode cL_law 16 = .ok (.istore 4, 2) := by decide +kernel
theorem dL_law_18 : decode cL_law 18 = .ok (.iload 4, 2) := by decide +kernel
theorem dL_law_20 : decode cL_law 20 = .ok (.sipush 150, 3) := by decide +kernel
theorem dL_law_23 : decode cL_law 23 = .ok (.if_icmp .ge 549, 3) := by decide +kernel
theorem dL_law_26 : decode cL_law 26 = .ok (.iload_n 3, 1) := by decide +kernel
theorem dL_law_27 : decode cL_law 27 = .ok (.ifCond .eq 545, 3) := by decide +kernel
theorem dL_law_30 : decode cL_law 30 = .ok (.aload_n 0, 1) := by decide +kernel
theorem dL_law_31 : decode cL_law 31 = .ok (.iload 4, 2) := by decide +kernel
theorem dL_law_33 : decode cL_law 33 = .ok (.sipush 30000, 3) := by decide +kernel
theorem dL_law_36 : decode cL_law 36 = .ok (.invokestatic 59, 3) := by decide +kernel
theorem dL_law_39 : decode cL_law 39 = .ok (.istore 5, 2) := by decide +kernel
theorem dL_law_41 : decode cL_law 41 = .ok (.iload 5, 2) := by decide +kernel
theorem dL_law_43 : decode cL_law 43 = .ok (.bipush 16, 2) := by decide +kernel
theorem dL_law_45 : decode cL_law 45 = .ok (.idiv, 1) := by decide +kernel
theorem dL_law_46 : decode cL_law 46 = .ok (.iload 5, 2) := by decide +kernel
theorem dL_law_48 : decode cL_law 48 = .ok (.iconst 2, 1) := by decide +kernel
theorem dL_law_49 : decode cL_law 49 = .ok (.irem, 1) := by decide +kernel
theorem dL_law_50 : decode cL_law 50 = .ok (.ifCond .ne 8, 3) := by decide +kernel
theorem dL_law_53 : decode cL_law 53 = .ok (.bipush 64, 2) := by decide +kernel
theorem dL_law_55 : decode cL_law 55 = .ok (.goto 5, 3) := by decide +kernel
theorem dL_law_58 : decode cL_law 58 = .ok (.bipush 11, 2) := by decide +kernel
theorem dL_law_60 : decode cL_law 60 = .ok (.irem, 1) := by decide +kernel
theorem dL_law_61 : decode cL_law 61 = .ok (.istore 6, 2) := by decide +kernel
theorem dL_law_63 : decode cL_law 63 = .ok (.iload 5, 2) := by decide +kernel
theorem dL_law_65 : decode cL_law 65 = .ok (.bipush 16, 2) := by decide +kernel
theorem dL_law_67 : decode cL_law 67 = .ok (.irem, 1) := by decide +kernel
theorem dL_law_68 : decode cL_law 68 = .ok (.istore 7, 2) := by decide +kernel
theorem dL_law_70 : decode cL_law 70 = .ok (.aload_n 1, 1) := by decide +kernel
theorem dL_law_71 : decode cL_law 71 = .ok (.invokevirtual 14, 3) := by decide +kernel
theorem dL_law_74 : decode cL_law 74 = .ok (.istore 8, 2) := by decide +kernel
theorem dL_law_76 : decode cL_law 76 = .ok (.aload_n 1, 1) := by decide +kernel
theorem dL_law_77 : decode cL_law 77 = .ok (.invokevirtual 8, 3) := by decide +kernel
theorem dL_law_80 : decode cL_law 80 = .ok (.istore 9, 2) := by decide +kernel
theorem dL_law_82 : decode cL_law 82 = .ok (.aload_n 1, 1) := by decide +kernel
theorem dL_law_83 : decode cL_law 83 = .ok (.iload 6, 2) := by decide +kernel
theorem dL_law_85 : decode cL_law 85 = .ok (.invokestatic 65, 3) := by decide +kernel
theorem dL_law_88 : decode cL_law 88 = .ok (.iconst 4, 1) := by decide +kernel
theorem dL_law_89 : decode cL_law 89 = .ok (.idiv, 1) := by decide +kernel
theorem dL_law_90 : decode cL_law 90 = .ok (.invokevirtual 39, 3) := by decide +kernel
theorem dL_law_93 : decode cL_law 93 = .ok (.istore 10, 2) := by decide +kernel
theorem dL_law_95 : decode cL_law 95 = .ok (.iload 7, 2) := by decide +kernel
theorem dL_law_97 : decode cL_law 97 = .ok (.bipush 7, 2) := by decide +kernel
theorem dL_law_99 : decode cL_law 99 = .ok (.if_icmp .ge 49, 3) := by decide +kernel
theorem dL_law_102 : decode cL_law 102 = .ok (.aload_n 1, 1) := by decide +kernel
theorem dL_law_103 : decode cL_law 103 = .ok (.iload 6, 2) := by decide +kernel
theorem dL_law_105 : decode cL_law 105 = .ok (.invokestatic 65, 3) := by decide +kernel
theorem dL_law_108 : decode cL_law 108 = .ok (.invokevirtual 68, 3) := by decide +kernel
theorem dL_law_111 : decode cL_law 111 = .ok (.aload_n 2, 1) := by decide +kernel
theorem dL_law_112 : decode cL_law 112 = .ok (.iload 6, 2) := by decide +kernel
theorem dL_law_114 : decode cL_law 114 = .ok (.iaload, 1) := by decide +kernel
theorem dL_law_115 : decode cL_law 115 = .ok (.if_icmp .ne 28, 3) := by decide +kernel
theorem dL_law_118 : decode cL_law 118 = .ok (.aload_n 1, 1) := by decide +kernel
theorem dL_law_119 : decode cL_law 119 = .ok (.invokevirtual 14, 3) := by decide +kernel
theorem dL_law_122 : decode cL_law 122 = .ok (.iload 8, 2) := by decide +kernel
theorem dL_law_124 : decode cL_law 124 = .ok (.iload 10, 2) := by decide +kernel
theorem dL_law_126 : decode cL_law 126 = .ok (.iconst 1, 1) := by decide +kernel
theorem dL_law_127 : decode cL_law 127 = .ok (.if_icmp .ne 7, 3) := by decide +kernel
theorem dL_law_130 : decode cL_law 130 = .ok (.iconst 1, 1) := by decide +kernel
theorem dL_law_131 : decode cL_law 131 = .ok (.goto 4, 3) := by decide +kernel
theorem dL_law_134 : decode cL_law 134 = .ok (.iconst 0, 1) := by decide +kernel
theorem dL_law_135 : decode cL_law 135 = .ok (.iadd, 1) := by decide +kernel
theorem dL_law_136 : decode cL_law 136 = .ok (.if_icmp .ne 7, 3) := by decide +kernel
theorem dL_law_139 : decode cL_law 139 = .ok (.iconst 1, 1) := by decide +kernel
theorem dL_law_140 : decode cL_law 140 = .ok (.goto 4, 3) := by decide +kernel
theorem dL_law_143 : decode cL_law 143 = .ok (.iconst 0, 1) := by decide +kernel
theorem dL_law_144 : decode cL_law 144 = .ok (.istore_n 3, 1) := by decide +kernel
theorem dL_law_145 : decode cL_law 145 = .ok (.goto 374, 3) := by decide +kernel
theorem dL_law_148 : decode cL_law 148 = .ok (.iload 7, 2) := by decide +kernel
theorem dL_law_150 : decode cL_law 150 = .ok (.bipush 12, 2) := by decide +kernel
theorem dL_law_152 : decode cL_law 152 = .ok (.if_icmp .ge 73, 3) := by decide +kernel
theorem dL_law_155 : decode cL_law 155 = .ok (.aload_n 1, 1) := by decide +kernel
theorem dL_law_156 : decode cL_law 156 = .ok (.iload 6, 2) := by decide +kernel
theorem dL_law_158 : decode cL_law 158 = .ok (.invokestatic 65, 3) := by decide +kernel
theorem dL_law_161 : decode cL_law 161 = .ok (.iload 5, 2) := by decide +kernel
theorem dL_law_163 : decode cL_law 163 = .ok (.iload 4, 2) := by decide +kernel
theorem dL_law_165 : decode cL_law 165 = .ok (.isub, 1) := by decide +kernel
theorem dL_law_166 : decode cL_law 166 = .ok (.invokevirtual 71, 3) := by decide +kernel
theorem dL_law_169 : decode cL_law 169 = .ok (.aload_n 2, 1) := by decide +kernel
theorem dL_law_170 : decode cL_law 170 = .ok (.iload 6, 2) := by decide +kernel
theorem dL_law_172 : decode cL_law 172 = .ok (.iaload, 1) := by decide +kernel
theorem dL_law_173 : decode cL_law 173 = .ok (.if_icmp .ne 38, 3) := by decide +kernel
theorem dL_law_176 : decode cL_law 176 = .ok (.aload_n 1, 1) := by decide +kernel
theorem dL_law_177 : decode cL_law 177 = .ok (.iload 6, 2) := by decide +kernel
theorem dL_law_179 : decode cL_law 179 = .ok (.invokestatic 65, 3) := by decide +kernel
theorem dL_law_182 : decode cL_law 182 = .ok (.iconst 4, 1) := by decide +kernel
theorem dL_law_183 : decode cL_law 183 = .ok (.idiv, 1) := by decide +kernel
theorem dL_law_184 : decode cL_law 184 = .ok (.invokevirtual 45, 3) := by decide +kernel
theorem dL_law_187 : decode cL_law 187 = .ok (.ifCond .eq 24, 3) := by decide +kernel
theorem dL_law_190 : decode cL_law 190 = .ok (.aload_n 1, 1) := by decide +kernel
theorem dL_law_191 : decode cL_law 191 = .ok (.iload 6, 2) := by decide +kernel
theorem dL_law_193 : decode cL_law 193 = .ok (.invokestatic 65, 3) := by decide +kernel
theorem dL_law_196 : decode cL_law 196 = .ok (.invokevirtual 52, 3) := by decide +kernel
theorem dL_law_199 : decode cL_law 199 = .ok (.iload 5, 2) := by decide +kernel
theorem dL_law_201 : decode cL_law 201 = .ok (.iload 4, 2) := by decide +kernel
theorem dL_law_203 : decode cL_law 203 = .ok (.isub, 1) := by decide +kernel
theorem dL_law_204 : decode cL_law 204 = .ok (.if_icmp .ne 7, 3) := by decide +kernel
theorem dL_law_207 : decode cL_law 207 = .ok (.iconst 1, 1) := by decide +kernel
theorem dL_law_208 : decode cL_law 208 = .ok (.goto 4, 3) := by decide +kernel
theorem dL_law_211 : decode cL_law 211 = .ok (.iconst 0, 1) := by decide +kernel
theorem dL_law_212 : decode cL_law 212 = .ok (.istore_n 3, 1) := by decide +kernel
theorem dL_law_213 : decode cL_law 213 = .ok (.aload_n 2, 1) := by decide +kernel
theorem dL_law_214 : decode cL_law 214 = .ok (.iload 6, 2) := by decide +kernel
theorem dL_law_216 : decode cL_law 216 = .ok (.iload 5, 2) := by decide +kernel
theorem dL_law_218 : decode cL_law 218 = .ok (.iload 4, 2) := by decide +kernel
theorem dL_law_220 : decode cL_law 220 = .ok (.isub, 1) := by decide +kernel
theorem dL_law_221 : decode cL_law 221 = .ok (.iastore, 1) := by decide +kernel
theorem dL_law_222 : decode cL_law 222 = .ok (.goto 297, 3) := by decide +kernel
theorem dL_law_225 : decode cL_law 225 = .ok (.iload 7, 2) := by decide +kernel
theorem dL_law_227 : decode cL_law 227 = .ok (.bipush 12, 2) := by decide +kernel
theorem dL_law_229 : decode cL_law 229 = .ok (.if_icmp .ne 70, 3) := by decide +kernel
theorem dL_law_232 : decode cL_law 232 = .ok (.iconst 1, 1) := by decide +kernel
theorem dL_law_233 : decode cL_law 233 = .ok (.iload 5, 2) := by decide +kernel
theorem dL_law_235 : decode cL_law 235 = .ok (.bipush 16, 2) := by decide +kernel
theorem dL_law_237 : decode cL_law 237 = .ok (.idiv, 1) := by decide +kernel
theorem dL_law_238 : decode cL_law 238 = .ok (.bipush 30, 2) := by decide +kernel
theorem dL_law_240 : decode cL_law 240 = .ok (.irem, 1) := by decide +kernel
theorem dL_law_241 : decode cL_law 241 = .ok (.iadd, 1) := by decide +kernel
theorem dL_law_242 : decode cL_law 242 = .ok (.istore 11, 2) := by decide +kernel
theorem dL_law_244 : decode cL_law 244 = .ok (.aload_n 1, 1) := by decide +kernel
theorem dL_law_245 : decode cL_law 245 = .ok (.iload 6, 2) := by decide +kernel
theorem dL_law_247 : decode cL_law 247 = .ok (.invokestatic 65, 3) := by decide +kernel
theorem dL_law_250 : decode cL_law 250 = .ok (.iload 5, 2) := by decide +kernel
theorem dL_law_252 : decode cL_law 252 = .ok (.sipush 480, 3) := by decide +kernel
theorem dL_law_255 : decode cL_law 255 = .ok (.idiv, 1) := by decide +kernel
theorem dL_law_256 : decode cL_law 256 = .ok (.sipush 129, 3) := by decide +kernel
theorem dL_law_259 : decode cL_law 259 = .ok (.irem, 1) := by decide +kernel
theorem dL_law_260 : decode cL_law 260 = .ok (.bipush 64, 2) := by decide +kernel
theorem dL_law_262 : decode cL_law 262 = .ok (.isub, 1) := by decide +kernel
theorem dL_law_263 : decode cL_law 263 = .ok (.iload 11, 2) := by decide +kernel
theorem dL_law_265 : decode cL_law 265 = .ok (.invokevirtual 75, 3) := by decide +kernel
theorem dL_law_268 : decode cL_law 268 = .ok (.aload_n 1, 1) := by decide +kernel
theorem dL_law_269 : decode cL_law 269 = .ok (.invokevirtual 8, 3) := by decide +kernel
theorem dL_law_272 : decode cL_law 272 = .ok (.iload 9, 2) := by decide +kernel
theorem dL_law_274 : decode cL_law 274 = .ok (.isub, 1) := by decide +kernel
theorem dL_law_275 : decode cL_law 275 = .ok (.if_icmp .ne 19, 3) := by decide +kernel
theorem dL_law_278 : decode cL_law 278 = .ok (.aload_n 1, 1) := by decide +kernel
theorem dL_law_279 : decode cL_law 279 = .ok (.invokevirtual 8, 3) := by decide +kernel
theorem dL_law_282 : decode cL_law 282 = .ok (.iload 9, 2) := by decide +kernel
theorem dL_law_284 : decode cL_law 284 = .ok (.iload 11, 2) := by decide +kernel
theorem dL_law_286 : decode cL_law 286 = .ok (.iadd, 1) := by decide +kernel
theorem dL_law_287 : decode cL_law 287 = .ok (.if_icmp .lt 7, 3) := by decide +kernel
theorem dL_law_290 : decode cL_law 290 = .ok (.iconst 1, 1) := by decide +kernel
theorem dL_law_291 : decode cL_law 291 = .ok (.goto 4, 3) := by decide +kernel
theorem dL_law_294 : decode cL_law 294 = .ok (.iconst 0, 1) := by decide +kernel
theorem dL_law_295 : decode cL_law 295 = .ok (.istore_n 3, 1) := by decide +kernel
theorem dL_law_296 : decode cL_law 296 = .ok (.goto 223, 3) := by decide +kernel
theorem dL_law_299 : decode cL_law 299 = .ok (.iload 7, 2) := by decide +kernel
theorem dL_law_301 : decode cL_law 301 = .ok (.bipush 13, 2) := by decide +kernel
theorem dL_law_303 : decode cL_law 303 = .ok (.if_icmp .ne 49, 3) := by decide +kernel
theorem dL_law_306 : decode cL_law 306 = .ok (.aload_n 1, 1) := by decide +kernel
theorem dL_law_307 : decode cL_law 307 = .ok (.invokevirtual 55, 3) := by decide +kernel
theorem dL_law_310 : decode cL_law 310 = .ok (.istore 11, 2) := by decide +kernel
theorem dL_law_312 : decode cL_law 312 = .ok (.aload_n 1, 1) := by decide +kernel
theorem dL_law_313 : decode cL_law 313 = .ok (.invokevirtual 79, 3) := by decide +kernel
theorem dL_law_316 : decode cL_law 316 = .ok (.iload 11, 2) := by decide +kernel
theorem dL_law_318 : decode cL_law 318 = .ok (.if_icmp .ne 29, 3) := by decide +kernel
theorem dL_law_321 : decode cL_law 321 = .ok (.aload_n 1, 1) := by decide +kernel
theorem dL_law_322 : decode cL_law 322 = .ok (.invokevirtual 55, 3) := by decide +kernel
theorem dL_law_325 : decode cL_law 325 = .ok (.ifCond .ne 22, 3) := by decide +kernel
theorem dL_law_328 : decode cL_law 328 = .ok (.aload_n 1, 1) := by decide +kernel
theorem dL_law_329 : decode cL_law 329 = .ok (.invokevirtual 8, 3) := by decide +kernel
theorem dL_law_332 : decode cL_law 332 = .ok (.iload 9, 2) := by decide +kernel
theorem dL_law_334 : decode cL_law 334 = .ok (.bipush 10, 2) := by decide +kernel
theorem dL_law_336 : decode cL_law 336 = .ok (.iload 11, 2) := by decide +kernel
theorem dL_law_338 : decode cL_law 338 = .ok (.imul, 1) := by decide +kernel
theorem dL_law_339 : decode cL_law 339 = .ok (.iadd, 1) := by decide +kernel
theorem dL_law_340 : decode cL_law 340 = .ok (.if_icmp .ne 7, 3) := by decide +kernel
theorem dL_law_343 : decode cL_law 343 = .ok (.iconst 1, 1) := by decide +kernel
theorem dL_law_344 : decode cL_law 344 = .ok (.goto 4, 3) := by decide +kernel
theorem dL_law_347 : decode cL_law 347 = .ok (.iconst 0, 1) := by decide +kernel
theorem dL_law_348 : decode cL_law 348 = .ok (.istore_n 3, 1) := by decide +kernel
theorem dL_law_349 : decode cL_law 349 = .ok (.goto 170, 3) := by decide +kernel
theorem dL_law_352 : decode cL_law 352 = .ok (.iload 7, 2) := by decide +kernel
theorem dL_law_354 : decode cL_law 354 = .ok (.bipush 14, 2) := by decide +kernel
theorem dL_law_356 : decode cL_law 356 = .ok (.if_icmp .ne 73, 3) := by decide +kernel
theorem dL_law_359 : decode cL_law 359 = .ok (.iload 5, 2) := by decide +kernel
theorem dL_law_361 : decode cL_law 361 = .ok (.iconst 5, 1) := by decide +kernel
theorem dL_law_362 : decode cL_law 362 = .ok (.irem, 1) := by decide +kernel
theorem dL_law_363 : decode cL_law 363 = .ok (.ifCond .ne 66, 3) := by decide +kernel
theorem dL_law_366 : decode cL_law 366 = .ok (.aload_n 1, 1) := by decide +kernel
theorem dL_law_367 : decode cL_law 367 = .ok (.invokevirtual 55, 3) := by decide +kernel
theorem dL_law_370 : decode cL_law 370 = .ok (.istore 11, 2) := by decide +kernel
theorem dL_law_372 : decode cL_law 372 = .ok (.aload_n 1, 1) := by decide +kernel
theorem dL_law_373 : decode cL_law 373 = .ok (.iconst 1, 1) := by decide +kernel
theorem dL_law_374 : decode cL_law 374 = .ok (.iload 5, 2) := by decide +kernel
theorem dL_law_376 : decode cL_law 376 = .ok (.bipush 16, 2) := by decide +kernel
theorem dL_law_378 : decode cL_law 378 = .ok (.idiv, 1) := by decide +kernel
theorem dL_law_379 : decode cL_law 379 = .ok (.iconst 5, 1) := by decide +kernel
theorem dL_law_380 : decode cL_law 380 = .ok (.irem, 1) := by decide +kernel
theorem dL_law_381 : decode cL_law 381 = .ok (.ishl, 1) := by decide +kernel
theorem dL_law_382 : decode cL_law 382 = .ok (.iload 5, 2) := by decide +kernel
theorem dL_law_384 : decode cL_law 384 = .ok (.bipush 80, 2) := by decide +kernel
theorem dL_law_386 : decode cL_law 386 = .ok (.idiv, 1) := by decide +kernel
theorem dL_law_387 : decode cL_law 387 = .ok (.bipush 9, 2) := by decide +kernel
theorem dL_law_389 : decode cL_law 389 = .ok (.irem, 1) := by decide +kernel
theorem dL_law_390 : decode cL_law 390 = .ok (.invokevirtual 82, 3) := by decide +kernel
theorem dL_law_393 : decode cL_law 393 = .ok (.iload 11, 2) := by decide +kernel
theorem dL_law_395 : decode cL_law 395 = .ok (.if_icmp .lt 29, 3) := by decide +kernel
theorem dL_law_398 : decode cL_law 398 = .ok (.aload_n 1, 1) := by decide +kernel
theorem dL_law_399 : decode cL_law 399 = .ok (.invokevirtual 8, 3) := by decide +kernel
theorem dL_law_402 : decode cL_law 402 = .ok (.iload 9, 2) := by decide +kernel
theorem dL_law_404 : decode cL_law 404 = .ok (.bipush 10, 2) := by decide +kernel
theorem dL_law_406 : decode cL_law 406 = .ok (.iload 11, 2) := by decide +kernel
theorem dL_law_408 : decode cL_law 408 = .ok (.imul, 1) := by decide +kernel
theorem dL_law_409 : decode cL_law 409 = .ok (.iadd, 1) := by decide +kernel
theorem dL_law_410 : decode cL_law 410 = .ok (.if_icmp .ne 14, 3) := by decide +kernel
theorem dL_law_413 : decode cL_law 413 = .ok (.aload_n 1, 1) := by decide +kernel
theorem dL_law_414 : decode cL_law 414 = .ok (.invokevirtual 26, 3) := by decide +kernel
theorem dL_law_417 : decode cL_law 417 = .ok (.ifCond .ne 7, 3) := by decide +kernel
theorem dL_law_420 : decode cL_law 420 = .ok (.iconst 1, 1) := by decide +kernel
theorem dL_law_421 : decode cL_law 421 = .ok (.goto 4, 3) := by decide +kernel
theorem dL_law_424 : decode cL_law 424 = .ok (.iconst 0, 1) := by decide +kernel
theorem dL_law_425 : decode cL_law 425 = .ok (.istore_n 3, 1) := by decide +kernel
theorem dL_law_426 : decode cL_law 426 = .ok (.goto 93, 3) := by decide +kernel
theorem dL_law_429 : decode cL_law 429 = .ok (.iload 5, 2) := by decide +kernel
theorem dL_law_431 : decode cL_law 431 = .ok (.bipush 16, 2) := by decide +kernel
theorem dL_law_433 : decode cL_law 433 = .ok (.idiv, 1) := by decide +kernel
theorem dL_law_434 : decode cL_law 434 = .ok (.aload_n 1, 1) := by decide +kernel
theorem dL_law_435 : decode cL_law 435 = .ok (.invokevirtual 32, 3) := by decide +kernel
theorem dL_law_438 : decode cL_law 438 = .ok (.irem, 1) := by decide +kernel
theorem dL_law_439 : decode cL_law 439 = .ok (.istore 11, 2) := by decide +kernel
theorem dL_law_441 : decode cL_law 441 = .ok (.aload_n 1, 1) := by decide +kernel
theorem dL_law_442 : decode cL_law 442 = .ok (.iload 11, 2) := by decide +kernel
theorem dL_law_444 : decode cL_law 444 = .ok (.invokevirtual 35, 3) := by decide +kernel
theorem dL_law_447 : decode cL_law 447 = .ok (.istore 12, 2) := by decide +kernel
theorem dL_law_449 : decode cL_law 449 = .ok (.iload 12, 2) := by decide +kernel
theorem dL_law_451 : decode cL_law 451 = .ok (.ifCond .lt 62, 3) := by decide +kernel
theorem dL_law_454 : decode cL_law 454 = .ok (.aload_n 1, 1) := by decide +kernel
theorem dL_law_455 : decode cL_law 455 = .ok (.iload 11, 2) := by decide +kernel
theorem dL_law_457 : decode cL_law 457 = .ok (.invokevirtual 85, 3) := by decide +kernel
theorem dL_law_460 : decode cL_law 460 = .ok (.iload 12, 2) := by decide +kernel
theorem dL_law_462 : decode cL_law 462 = .ok (.if_icmp .ne 55, 3) := by decide +kernel
theorem dL_law_465 : decode cL_law 465 = .ok (.aload_n 1, 1) := by decide +kernel
theorem dL_law_466 : decode cL_law 466 = .ok (.iload 11, 2) := by decide +kernel
theorem dL_law_468 : decode cL_law 468 = .ok (.invokevirtual 35, 3) := by decide +kernel
theorem dL_law_471 : decode cL_law 471 = .ok (.iconst (-1), 1) := by decide +kernel
theorem dL_law_472 : decode cL_law 472 = .ok (.if_icmp .ne 45, 3) := by decide +kernel
theorem dL_law_475 : decode cL_law 475 = .ok (.aload_n 1, 1) := by decide +kernel
theorem dL_law_476 : decode cL_law 476 = .ok (.iload 12, 2) := by decide +kernel
theorem dL_law_478 : decode cL_law 478 = .ok (.invokevirtual 39, 3) := by decide +kernel
theorem dL_law_481 : decode cL_law 481 = .ok (.aload_n 1, 1) := by decide +kernel
theorem dL_law_482 : decode cL_law 482 = .ok (.invokevirtual 29, 3) := by decide +kernel
theorem dL_law_485 : decode cL_law 485 = .ok (.ifCond .ne 7, 3) := by decide +kernel
theorem dL_law_488 : decode cL_law 488 = .ok (.iconst 0, 1) := by decide +kernel
theorem dL_law_489 : decode cL_law 489 = .ok (.goto 4, 3) := by decide +kernel
theorem dL_law_492 : decode cL_law 492 = .ok (.iconst 2, 1) := by decide +kernel
theorem dL_law_493 : decode cL_law 493 = .ok (.if_icmp .ne 24, 3) := by decide +kernel
theorem dL_law_496 : decode cL_law 496 = .ok (.aload_n 1, 1) := by decide +kernel
theorem dL_law_497 : decode cL_law 497 = .ok (.invokevirtual 29, 3) := by decide +kernel
theorem dL_law_500 : decode cL_law 500 = .ok (.ifCond .eq 13, 3) := by decide +kernel
theorem dL_law_503 : decode cL_law 503 = .ok (.aload_n 1, 1) := by decide +kernel
theorem dL_law_504 : decode cL_law 504 = .ok (.iconst 0, 1) := by decide +kernel
theorem dL_law_505 : decode cL_law 505 = .ok (.invokevirtual 42, 3) := by decide +kernel
theorem dL_law_508 : decode cL_law 508 = .ok (.iload 12, 2) := by decide +kernel
theorem dL_law_510 : decode cL_law 510 = .ok (.if_icmp .ne 7, 3) := by decide +kernel
theorem dL_law_513 : decode cL_law 513 = .ok (.iconst 1, 1) := by decide +kernel
theorem dL_law_514 : decode cL_law 514 = .ok (.goto 4, 3) := by decide +kernel
theorem dL_law_517 : decode cL_law 517 = .ok (.iconst 0, 1) := by decide +kernel
theorem dL_law_518 : decode cL_law 518 = .ok (.istore_n 3, 1) := by decide +kernel
theorem dL_law_519 : decode cL_law 519 = .ok (.iload_n 3, 1) := by decide +kernel
theorem dL_law_520 : decode cL_law 520 = .ok (.ifCond .eq 44, 3) := by decide +kernel
theorem dL_law_523 : decode cL_law 523 = .ok (.iload 7, 2) := by decide +kernel
theorem dL_law_525 : decode cL_law 525 = .ok (.bipush 11, 2) := by decide +kernel
theorem dL_law_527 : decode cL_law 527 = .ok (.if_icmp .gt 18, 3) := by decide +kernel
theorem dL_law_530 : decode cL_law 530 = .ok (.aload_n 1, 1) := by decide +kernel
theorem dL_law_531 : decode cL_law 531 = .ok (.iload 6, 2) := by decide +kernel
theorem dL_law_533 : decode cL_law 533 = .ok (.invokestatic 65, 3) := by decide +kernel
theorem dL_law_536 : decode cL_law 536 = .ok (.iconst 4, 1) := by decide +kernel
theorem dL_law_537 : decode cL_law 537 = .ok (.idiv, 1) := by decide +kernel
theorem dL_law_538 : decode cL_law 538 = .ok (.invokevirtual 39, 3) := by decide +kernel
theorem dL_law_541 : decode cL_law 541 = .ok (.iconst 1, 1) := by decide +kernel
theorem dL_law_542 : decode cL_law 542 = .ok (.if_icmp .ne 22, 3) := by decide +kernel
theorem dL_law_545 : decode cL_law 545 = .ok (.iload 4, 2) := by decide +kernel
theorem dL_law_547 : decode cL_law 547 = .ok (.bipush 10, 2) := by decide +kernel
theorem dL_law_549 : decode cL_law 549 = .ok (.irem, 1) := by decide +kernel
theorem dL_law_550 : decode cL_law 550 = .ok (.ifCond .gt 10, 3) := by decide +kernel
theorem dL_law_553 : decode cL_law 553 = .ok (.aload_n 1, 1) := by decide +kernel
theorem dL_law_554 : decode cL_law 554 = .ok (.invokestatic 88, 3) := by decide +kernel
theorem dL_law_557 : decode cL_law 557 = .ok (.ifCond .eq 7, 3) := by decide +kernel
theorem dL_law_560 : decode cL_law 560 = .ok (.iconst 1, 1) := by decide +kernel
theorem dL_law_561 : decode cL_law 561 = .ok (.goto 4, 3) := by decide +kernel
theorem dL_law_564 : decode cL_law 564 = .ok (.iconst 0, 1) := by decide +kernel
theorem dL_law_565 : decode cL_law 565 = .ok (.istore_n 3, 1) := by decide +kernel
theorem dL_law_566 : decode cL_law 566 = .ok (.iinc 4 1, 3) := by decide +kernel
theorem dL_law_569 : decode cL_law 569 = .ok (.goto (-551), 3) := by decide +kernel
theorem dL_law_572 : decode cL_law 572 = .ok (.iconst 0, 1) := by decide +kernel
theorem dL_law_573 : decode cL_law 573 = .ok (.istore 4, 2) := by decide +kernel
theorem dL_law_575 : decode cL_law 575 = .ok (.iload 4, 2) := by decide +kernel
theorem dL_law_577 : decode cL_law 577 = .ok (.bipush 64, 2) := by decide +kernel
theorem dL_law_579 : decode cL_law 579 = .ok (.if_icmp .ge 35, 3) := by decide +kernel
theorem dL_law_582 : decode cL_law 582 = .ok (.iload_n 3, 1) := by decide +kernel
theorem dL_law_583 : decode cL_law 583 = .ok (.ifCond .eq 23, 3) := by decide +kernel
theorem dL_law_586 : decode cL_law 586 = .ok (.aload_n 1, 1) := by decide +kernel
theorem dL_law_587 : decode cL_law 587 = .ok (.iload 4, 2) := by decide +kernel
theorem dL_law_589 : decode cL_law 589 = .ok (.invokestatic 65, 3) := by decide +kernel
theorem dL_law_592 : decode cL_law 592 = .ok (.invokevirtual 52, 3) := by decide +kernel
theorem dL_law_595 : decode cL_law 595 = .ok (.aload_n 2, 1) := by decide +kernel
theorem dL_law_596 : decode cL_law 596 = .ok (.iload 4, 2) := by decide +kernel
theorem dL_law_598 : decode cL_law 598 = .ok (.iaload, 1) := by decide +kernel
theorem dL_law_599 : decode cL_law 599 = .ok (.if_icmp .ne 7, 3) := by decide +kernel
theorem dL_law_602 : decode cL_law 602 = .ok (.iconst 1, 1) := by decide +kernel
theorem dL_law_603 : decode cL_law 603 = .ok (.goto 4, 3) := by decide +kernel
theorem dL_law_606 : decode cL_law 606 = .ok (.iconst 0, 1) := by decide +kernel
theorem dL_law_607 : decode cL_law 607 = .ok (.istore_n 3, 1) := by decide +kernel
theorem dL_law_608 : decode cL_law 608 = .ok (.iinc 4 1, 3) := by decide +kernel
theorem dL_law_611 : decode cL_law 611 = .ok (.goto (-36), 3) := by decide +kernel
theorem dL_law_614 : decode cL_law 614 = .ok (.aload_n 1, 1) := by decide +kernel
theorem dL_law_615 : decode cL_law 615 = .ok (.invokevirtual 14, 3) := by decide +kernel
theorem dL_law_618 : decode cL_law 618 = .ok (.aload_n 1, 1) := by decide +kernel
theorem dL_law_619 : decode cL_law 619 = .ok (.invokevirtual 17, 3) := by decide +kernel
theorem dL_law_622 : decode cL_law 622 = .ok (.iadd, 1) := by decide +kernel
theorem dL_law_623 : decode cL_law 623 = .ok (.aload_n 1, 1) := by decide +kernel
theorem dL_law_624 : decode cL_law 624 = .ok (.invokevirtual 20, 3) := by decide +kernel
theorem dL_law_627 : decode cL_law 627 = .ok (.iadd, 1) := by decide +kernel
theorem dL_law_628 : decode cL_law 628 = .ok (.istore 4, 2) := by decide +kernel
theorem dL_law_630 : decode cL_law 630 = .ok (.iload_n 3, 1) := by decide +kernel
theorem dL_law_631 : decode cL_law 631 = .ok (.ifCond .eq 81, 3) := by decide +kernel
theorem dL_law_634 : decode cL_law 634 = .ok (.aload_n 1, 1) := by decide +kernel
theorem dL_law_635 : decode cL_law 635 = .ok (.invokestatic 88, 3) := by decide +kernel
theorem dL_law_638 : decode cL_law 638 = .ok (.ifCond .eq 74, 3) := by decide +kernel
theorem dL_law_641 : decode cL_law 641 = .ok (.aload_n 1, 1) := by decide +kernel
theorem dL_law_642 : decode cL_law 642 = .ok (.invokevirtual 79, 3) := by decide +kernel
theorem dL_law_645 : decode cL_law 645 = .ok (.ifCond .lt 67, 3) := by decide +kernel
theorem dL_law_648 : decode cL_law 648 = .ok (.aload_n 1, 1) := by decide +kernel
theorem dL_law_649 : decode cL_law 649 = .ok (.bipush 9, 2) := by decide +kernel
theorem dL_law_651 : decode cL_law 651 = .ok (.invokestatic 65, 3) := by decide +kernel
theorem dL_law_654 : decode cL_law 654 = .ok (.invokevirtual 49, 3) := by decide +kernel
theorem dL_law_657 : decode cL_law 657 = .ok (.aload_n 2, 1) := by decide +kernel
theorem dL_law_658 : decode cL_law 658 = .ok (.bipush 9, 2) := by decide +kernel
theorem dL_law_660 : decode cL_law 660 = .ok (.iaload, 1) := by decide +kernel
theorem dL_law_661 : decode cL_law 661 = .ok (.if_icmp .ne 51, 3) := by decide +kernel
theorem dL_law_664 : decode cL_law 664 = .ok (.aload_n 1, 1) := by decide +kernel
theorem dL_law_665 : decode cL_law 665 = .ok (.aload_n 1, 1) := by decide +kernel
theorem dL_law_666 : decode cL_law 666 = .ok (.invokevirtual 32, 3) := by decide +kernel
theorem dL_law_669 : decode cL_law 669 = .ok (.aload_n 1, 1) := by decide +kernel
theorem dL_law_670 : decode cL_law 670 = .ok (.invokevirtual 29, 3) := by decide +kernel
theorem dL_law_673 : decode cL_law 673 = .ok (.invokevirtual 92, 3) := by decide +kernel
theorem dL_law_676 : decode cL_law 676 = .ok (.iload 4, 2) := by decide +kernel
theorem dL_law_678 : decode cL_law 678 = .ok (.sipush 150, 3) := by decide +kernel
theorem dL_law_681 : decode cL_law 681 = .ok (.if_icmp .ge 8, 3) := by decide +kernel
theorem dL_law_684 : decode cL_law 684 = .ok (.iload 4, 2) := by decide +kernel
theorem dL_law_686 : decode cL_law 686 = .ok (.goto 6, 3) := by decide +kernel
theorem dL_law_689 : decode cL_law 689 = .ok (.sipush 150, 3) := by decide +kernel
theorem dL_law_692 : decode cL_law 692 = .ok (.if_icmp .lt 20, 3) := by decide +kernel
theorem dL_law_695 : decode cL_law 695 = .ok (.aload_n 1, 1) := by decide +kernel
theorem dL_law_696 : decode cL_law 696 = .ok (.bipush 16, 2) := by decide +kernel
theorem dL_law_698 : decode cL_law 698 = .ok (.aload_n 1, 1) := by decide +kernel
theorem dL_law_699 : decode cL_law 699 = .ok (.invokevirtual 95, 3) := by decide +kernel
theorem dL_law_702 : decode cL_law 702 = .ok (.invokevirtual 92, 3) := by decide +kernel
theorem dL_law_705 : decode cL_law 705 = .ok (.ifCond .lt 7, 3) := by decide +kernel
theorem dL_law_708 : decode cL_law 708 = .ok (.iconst 1, 1) := by decide +kernel
theorem dL_law_709 : decode cL_law 709 = .ok (.goto 4, 3) := by decide +kernel
theorem dL_law_712 : decode cL_law 712 = .ok (.iconst 0, 1) := by decide +kernel
theorem dL_law_713 : decode cL_law 713 = .ok (.ireturn, 1) := by decide +kernel
abbrev vwCl : List vw_C := [(RX0, TX0, 11), (RX1, TX1, 4), (RX2, TX2, 5)]
end
section
/-! typed rows of arrays; instruction rows over numbers; contracts of one form; their calls and returns -/
def bI (b : Bool) : Int32 := if b then 1 else 0
def oI (o : Option Nat) : Int32 := match o with
  | none => -1
  | some q => nI q
def ru {α : Type} (f : Nat → α) (k : Nat) (v : α) : Nat → α := fun j => if j = k then v else f j
theorem ru_s {α : Type} (f : Nat → α) (k : Nat) (v : α) : ru f k v k = v := by simp [ru]
theorem ru_n {α : Type} (f : Nat → α) {k j : Nat} (v : α) (h : j ≠ k) : ru f k v j = f j := by simp [ru, h]
theorem upd_ru {α : Type} (en : α → Int32) (g : Nat → α) (k : Nat) (v : α) : upd (fun j => en (g j)) k (en v) = fun j => en (ru g k v j) := by
  funext j
  by_cases h : j = k
  · simp [upd, ru, h]
  · simp [upd, ru, h]
theorem upd_ruR (f : Nat → Int32) (k : Nat) (x : Int32) : upd f k x = ru f k x := by
  funext j
  by_cases h : j = k
  · simp [upd, ru, h]
  · simp [upd, ru, h]
theorem vp_nar_bI (b : Bool) : vp_nar .boolean (bI b) = bI b := by cases b <;> rfl
theorem narrow_bI (b : Bool) : narrow .boolean (.int (bI b)) = .int (bI b) := by cases b <;> rfl
theorem nI_m1 {q : Nat} (h : q < 2 ^ 31) : ¬ nI q = -1 := by
  intro e
  have h1 := congrArg Int32.toInt e
  rw [nI_toInt h] at h1
  have h2 : (-1 : Int32).toInt = -1 := by decide
  rw [h2] at h1
  omega
theorem nI_inj {a b : Nat} (ha : a < 2 ^ 31) (hb : b < 2 ^ 31) (e : nI a = nI b) : a = b := (nI_eq ha hb).mp e
theorem inc1 (k : Nat) : nI k + Int32.ofInt 1 = nI (k + 1) := by rw [nI_succ]; rfl
theorem dec1 {k : Nat} (h : 0 < k) : nI k + Int32.ofInt (-1) = nI (k - 1) := by
  obtain ⟨j, rfl⟩ : ∃ j, k = j + 1 := ⟨k - 1, by omega⟩
  exact pk_m1 j
theorem inc1R (x : Int32) : x + Int32.ofInt 1 = x + 1 := rfl
theorem inc4 (k : Nat) : nI k + Int32.ofInt 4 = nI (k + 4) := nI_add k 4
theorem row_eq {cA : ClassId} {n : Nat} {f g : Nat → Int32} (h : ∀ k, k < n → f k = g k) : vp_cell cA (n, .inl f) = vp_cell cA (n, .inl g) := by
  rw [vp_cell_i, vp_cell_i]
  unfold arrV
  have e : (fun j : Fin n => Value.int (f j.val)) = fun j => Value.int (g j.val) := funext fun j => by rw [h j.val j.isLt]
  rw [e]
section MQ
variable {p : Program} {l : Launch} {e : Env} {R : Room} {s : State} {m : MethodId} {args : Array Value} {below : List Frame} {meth : Method} {c : Code} {H : Heap} {locs : List Loc} {cells slots : Nat} {Q : State → Prop}
variable {cc : ByteArray} {pc : Nat} {ls : Array Slot} {rest : List Value} {D : va_G} {cl : List vw_C} {A : Nat → Prop} {a : Nat} {tys : List (ClassId × FieldType)} {ws ws' : va_W} {H0 : Heap}
/-- a row may be told anew where nobody sees it -/
theorem mq_row {q0 : Nat} {cA : ClassId} {n : Nat} {f g : Nat → Int32} (hP : va_P D cl ws H) (hD : va_D A ws) (ha : ws[q0]? = some (a, .inl (cA, n, .inl f))) (h : ∀ k, k < n → f k = g k) (hw : ws.set q0 (a, .inl (cA, n, .inl g)) = ws') : va_P D cl ws' H ∧ va_D A ws' := by
  subst hw
  refine ⟨hP.set hD ha ?_ (fun _ _ => rfl), hD.set ha⟩
  have h1 : H[a]? = some (vp_cell cA (n, .inl f)) := hP q0 _ ha
  show H[a]? = some (vp_cell cA (n, .inl g))
  rw [h1, row_eq h]
theorem mq_ld {α : Type} (en : α → Int32) (g : Nat → α) (hx : p.tables.exec = Jvm.exec) (hb : c.code = cc) (hK : va_K D cl tys s) (hP : va_P D cl ws H) (q0 t0 : Nat) {cA : ClassId} {n k : Nat} (ha : ws[q0]? = some (a, .inl (cA, n, .inl (fun j => en (g j))))) (ht : tys[t0]? = some (cA, .int)) (hk : k < n) (hn : n < 2 ^ 31) (hdg : decode cc pc = .ok (.iaload, 1))
    (kk : W p l e R s m args below meth c H locs cells slots Q (F0 m (pc + 1) ls (.int (en (g k)) :: rest))) : W p l e R s m args below meth c H locs cells slots Q (F0 m pc ls (.int (nI k) :: .ref a :: rest)) := by
  refine va_iald hx hb hK hP q0 t0 ha ht (vp_in_nI hk hn) hdg ?_
  rw [nI_clamp (Nat.lt_trans hk hn)]
  exact kk
theorem mq_ldR (g : Nat → Int32) (hx : p.tables.exec = Jvm.exec) (hb : c.code = cc) (hK : va_K D cl tys s) (hP : va_P D cl ws H) (q0 t0 : Nat) {cA : ClassId} {n k : Nat} (ha : ws[q0]? = some (a, .inl (cA, n, .inl g))) (ht : tys[t0]? = some (cA, .int)) (hk : k < n) (hn : n < 2 ^ 31) (hdg : decode cc pc = .ok (.iaload, 1))
    (kk : W p l e R s m args below meth c H locs cells slots Q (F0 m (pc + 1) ls (.int (g k) :: rest))) : W p l e R s m args below meth c H locs cells slots Q (F0 m pc ls (.int (nI k) :: .ref a :: rest)) := by
  refine va_iald hx hb hK hP q0 t0 ha ht (vp_in_nI hk hn) hdg ?_
  rw [nI_clamp (Nat.lt_trans hk hn)]
  exact kk
theorem mq_zld (g : Nat → Bool) (hx : p.tables.exec = Jvm.exec) (hb : c.code = cc) (hK : va_K D cl tys s) (hP : va_P D cl ws H) (q0 t0 : Nat) {cA : ClassId} {n k : Nat} (ha : ws[q0]? = some (a, .inl (cA, n, .inl (fun j => bI (g j))))) (ht : tys[t0]? = some (cA, .boolean)) (hk : k < n) (hn : n < 2 ^ 31) (hdg : decode cc pc = .ok (.baload, 1))
    (kk : W p l e R s m args below meth c H locs cells slots Q (F0 m (pc + 1) ls (.int (bI (g k)) :: rest))) : W p l e R s m args below meth c H locs cells slots Q (F0 m pc ls (.int (nI k) :: .ref a :: rest)) := by
  refine va_zald hx hb hK hP q0 t0 ha ht (vp_in_nI hk hn) hdg ?_
  rw [nI_clamp (Nat.lt_trans hk hn)]
  exact kk
theorem mq_st {α : Type} (en : α → Int32) (g : Nat → α) (v : α) (hx : p.tables.exec = Jvm.exec) (hb : c.code = cc) (hK : va_K D cl tys s) (hP : va_P D cl ws H) (hD : va_D A ws) (hS : va_S A H0 H locs) (q0 t0 : Nat) {cA : ClassId} {n k : Nat} (ha : ws[q0]? = some (a, .inl (cA, n, .inl (fun j => en (g j))))) (ht : tys[t0]? = some (cA, .int)) (hk : k < n) (hn : n < 2 ^ 31) (hdg : decode cc pc = .ok (.iastore, 1)) (hw : ws.set q0 (a, .inl (cA, n, .inl (fun j => en (ru g k v j)))) = ws')
    (kk : ∀ (H1 : Heap) (locs1 : List Loc), va_P D cl ws' H1 → va_D A ws' → va_S A H0 H1 locs1 → W p l e R s m args below meth c H1 locs1 cells slots Q (F0 m (pc + 1) ls rest)) : W p l e R s m args below meth c H locs cells slots Q (F0 m pc ls (.int (en v) :: .int (nI k) :: .ref a :: rest)) := by
  refine va_iast hx hb hK hP hD hS q0 t0 ha ht (vp_in_nI hk hn) hdg (fun H1 l1 h1 h2 h3 => ?_)
  rw [nI_clamp (Nat.lt_trans hk hn), upd_ru, hw] at h1 h2
  exact kk H1 l1 h1 h2 h3
theorem mq_stR (g : Nat → Int32) (v : Int32) (hx : p.tables.exec = Jvm.exec) (hb : c.code = cc) (hK : va_K D cl tys s) (hP : va_P D cl ws H) (hD : va_D A ws) (hS : va_S A H0 H locs) (q0 t0 : Nat) {cA : ClassId} {n k : Nat} (ha : ws[q0]? = some (a, .inl (cA, n, .inl g))) (ht : tys[t0]? = some (cA, .int)) (hk : k < n) (hn : n < 2 ^ 31) (hdg : decode cc pc = .ok (.iastore, 1)) (hw : ws.set q0 (a, .inl (cA, n, .inl (ru g k v))) = ws')
    (kk : ∀ (H1 : Heap) (locs1 : List Loc), va_P D cl ws' H1 → va_D A ws' → va_S A H0 H1 locs1 → W p l e R s m args below meth c H1 locs1 cells slots Q (F0 m (pc + 1) ls rest)) : W p l e R s m args below meth c H locs cells slots Q (F0 m pc ls (.int v :: .int (nI k) :: .ref a :: rest)) := by
  refine va_iast hx hb hK hP hD hS q0 t0 ha ht (vp_in_nI hk hn) hdg (fun H1 l1 h1 h2 h3 => ?_)
  rw [nI_clamp (Nat.lt_trans hk hn), upd_ruR, hw] at h1 h2
  exact kk H1 l1 h1 h2 h3
theorem mq_zst (g : Nat → Bool) (v : Bool) (hx : p.tables.exec = Jvm.exec) (hb : c.code = cc) (hK : va_K D cl tys s) (hP : va_P D cl ws H) (hD : va_D A ws) (hS : va_S A H0 H locs) (q0 t0 : Nat) {cA : ClassId} {n k : Nat} (ha : ws[q0]? = some (a, .inl (cA, n, .inl (fun j => bI (g j))))) (ht : tys[t0]? = some (cA, .boolean)) (hk : k < n) (hn : n < 2 ^ 31) (hdg : decode cc pc = .ok (.bastore, 1)) (hw : ws.set q0 (a, .inl (cA, n, .inl (fun j => bI (ru g k v j)))) = ws')
    (kk : ∀ (H1 : Heap) (locs1 : List Loc), va_P D cl ws' H1 → va_D A ws' → va_S A H0 H1 locs1 → W p l e R s m args below meth c H1 locs1 cells slots Q (F0 m (pc + 1) ls rest)) : W p l e R s m args below meth c H locs cells slots Q (F0 m pc ls (.int (bI v) :: .int (nI k) :: .ref a :: rest)) := by
  refine va_zast hx hb hK hP hD hS q0 t0 ha ht (vp_in_nI hk hn) hdg (fun H1 l1 h1 h2 h3 => ?_)
  rw [nI_clamp (Nat.lt_trans hk hn), vp_nar_bI, upd_ru, hw] at h1 h2
  exact kk H1 l1 h1 h2 h3
theorem mq_put (hx : p.tables.exec = Jvm.exec) (hb : c.code = cc) {own ref C : String} {T : u_T} {N ci index : Nat} {Ts : List Cond} (hts : ∀ w ∈ Ts, w.before args s = true) (hin : ∀ w ∈ u_ws C T N, w ∈ Ts) (ty0 : Nat → FieldType) (hty : ∀ k, k < N → parseFieldDescriptor (T k).2.2.1 = some (ty0 k)) (hnm : ∀ a, a < N → ∀ b, b < N → a ≠ b → (T a).2.1 ≠ (T b).2.1) (hown : s.vm.findClass own = some m.cls) (hK : va_K D cl tys s) (hP : va_P D cl ws H) (hD : va_D A ws) (hS0 : va_S A H0 H locs) (q0 : Nat) {fs : List Value} (he : ws[q0]? = some (a, .inr (ci, fs))) (hc : cl[ci]? = some (C, T, N)) (k : Nat) (hk : k < N) (hlink : (Cond.fieldLink own index ref (T k).2.1 (T k).2.2.1).before args s = true) (hsame : ∀ x, s.fieldFound? (T k).1 (T k).2.1 (T k).2.2.1 = some x → s.fieldFound? ref (T k).2.1 (T k).2.2.1 = some x) (hfin : (T k).2.2.2 = false) {ty : FieldType} {v : Value} (hd : parseFieldDescriptor (T k).2.2.1 = some ty) (hn : narrow ty v = v) (hfit : fits ty v = true) (hl : k < fs.length)
    (hdg : decode cc pc = .ok (.putfield index, 3)) (hw : ws.set q0 (a, .inr (ci, fs.set k v)) = ws') (kk : ∀ (H1 : Heap) (locs1 : List Loc), va_P D cl ws' H1 → va_D A ws' → va_S A H0 H1 locs1 → W p l e R s m args below meth c H1 locs1 cells slots Q (F0 m (pc + 3) ls rest)) : W p l e R s m args below meth c H locs cells slots Q (F0 m pc ls (v :: .ref a :: rest)) := by
  subst hw
  exact va_put hx hb hts hin ty0 hty hnm hown hK hP hD hS0 q0 he hc k hk hlink hsame hfin hd hn hfit hl hdg kk
theorem mq_putF (hx : p.tables.exec = Jvm.exec) (hb : c.code = cc) {own ref C : String} {T : u_T} {N ci index : Nat} {Ts : List Cond} (hts : ∀ w ∈ Ts, w.before args s = true) (hin : ∀ w ∈ u_ws C T N, w ∈ Ts) (ty0 : Nat → FieldType) (hty : ∀ k, k < N → parseFieldDescriptor (T k).2.2.1 = some (ty0 k)) (hnm : ∀ a, a < N → ∀ b, b < N → a ≠ b → (T a).2.1 ≠ (T b).2.1) (hown : s.vm.findClass own = some m.cls) (hK : va_K D cl tys s) (hP : va_P D cl ws H) (hD : va_D A ws) (hS0 : va_S A H0 H locs) (q0 : Nat) {fs : List Value} (he : ws[q0]? = some (a, .inr (ci, fs))) (hc : cl[ci]? = some (C, T, N)) (k : Nat) (hk : k < N) (hlink : (Cond.fieldLink own index ref (T k).2.1 (T k).2.2.1).before args s = true) (hsame : ∀ x, s.fieldFound? (T k).1 (T k).2.1 (T k).2.2.1 = some x → s.fieldFound? ref (T k).2.1 (T k).2.2.1 = some x) (hfin : (T k).2.2.2 = true) (hin2 : meth.name = "<init>") (hdecl : (T k).1 = own) {ty : FieldType} {v : Value} (hd : parseFieldDescriptor (T k).2.2.1 = some ty) (hn : narrow ty v = v) (hfit : fits ty v = true) (hl : k < fs.length)
    (hdg : decode cc pc = .ok (.putfield index, 3)) (hw : ws.set q0 (a, .inr (ci, fs.set k v)) = ws') (kk : ∀ (H1 : Heap) (locs1 : List Loc), va_P D cl ws' H1 → va_D A ws' → va_S A H0 H1 locs1 → W p l e R s m args below meth c H1 locs1 cells slots Q (F0 m (pc + 3) ls rest)) : W p l e R s m args below meth c H locs cells slots Q (F0 m pc ls (v :: .ref a :: rest)) := by
  subst hw
  exact va_putF hx hb hts hin ty0 hty hnm hown hK hP hD hS0 q0 he hc k hk hlink hsame hfin hin2 hdecl hd hn hfit hl hdg kk
theorem mq_iadd {x y : Nat} (hx : p.tables.exec = Jvm.exec) (hb : c.code = cc) (hdg : decode cc pc = .ok (.iadd, 1))
    (k : W p l e R s m args below meth c H locs cells slots Q (F0 m (pc + 1) ls (.int (nI (x + y)) :: rest))) : W p l e R s m args below meth c H locs cells slots Q (F0 m pc ls (.int (nI y) :: .int (nI x) :: rest)) := by
  refine lv_iadd hx hb hdg ?_
  rw [nI_add]; exact k
theorem mq_isub {x y : Nat} (h : y ≤ x) (hx : p.tables.exec = Jvm.exec) (hb : c.code = cc) (hdg : decode cc pc = .ok (.isub, 1))
    (k : W p l e R s m args below meth c H locs cells slots Q (F0 m (pc + 1) ls (.int (nI (x - y)) :: rest))) : W p l e R s m args below meth c H locs cells slots Q (F0 m pc ls (.int (nI y) :: .int (nI x) :: rest)) := by
  refine lv_isub hx hb hdg ?_
  rw [pk_sub h]; exact k
theorem mq_imul {x y : Nat} (hx : p.tables.exec = Jvm.exec) (hb : c.code = cc) (hdg : decode cc pc = .ok (.imul, 1))
    (k : W p l e R s m args below meth c H locs cells slots Q (F0 m (pc + 1) ls (.int (nI (x * y)) :: rest))) : W p l e R s m args below meth c H locs cells slots Q (F0 m pc ls (.int (nI y) :: .int (nI x) :: rest)) := by
  refine lv_imul hx hb hdg ?_
  rw [pk_mul]; exact k
theorem mq_idiv {x y : Nat} (ha : x < 2 ^ 31) (h0 : 0 < y) (hy : y < 2 ^ 31) (hx : p.tables.exec = Jvm.exec) (hb : c.code = cc) (hdg : decode cc pc = .ok (.idiv, 1))
    (k : W p l e R s m args below meth c H locs cells slots Q (F0 m (pc + 1) ls (.int (nI (x / y)) :: rest))) : W p l e R s m args below meth c H locs cells slots Q (F0 m pc ls (.int (nI y) :: .int (nI x) :: rest)) := by
  refine lv_idiv hx hb hdg (nI_ne0 h0 hy) ?_
  rw [pk_div ha h0 hy]; exact k
theorem mq_irem {x y : Nat} (ha : x < 2 ^ 31) (h0 : 0 < y) (hy : y < 2 ^ 31) (hx : p.tables.exec = Jvm.exec) (hb : c.code = cc) (hdg : decode cc pc = .ok (.irem, 1))
    (k : W p l e R s m args below meth c H locs cells slots Q (F0 m (pc + 1) ls (.int (nI (x % y)) :: rest))) : W p l e R s m args below meth c H locs cells slots Q (F0 m pc ls (.int (nI y) :: .int (nI x) :: rest)) := by
  refine lv_irem hx hb hdg (nI_ne0 h0 hy) ?_
  rw [pk_rem ha h0 hy]; exact k
theorem mq_ge {x y : Nat} (ha : x < 2 ^ 31) (hy : y < 2 ^ 31) (hx : p.tables.exec = Jvm.exec) (hb : c.code = cc) {off : Int} {tgt : Nat} (hdg : decode cc pc = .ok (.if_icmp .ge off, 3)) (ht : (pc : Int) + off = (tgt : Int))
    (kt : y ≤ x → W p l e R s m args below meth c H locs cells slots Q (F0 m tgt ls rest)) (kf : x < y → W p l e R s m args below meth c H locs cells slots Q (F0 m (pc + 3) ls rest)) : W p l e R s m args below meth c H locs cells slots Q (F0 m pc ls (.int (nI y) :: .int (nI x) :: rest)) :=
  lv_icmp_ge hx hb hdg ht (fun h => kt ((nI_leI hy ha).mp h)) (fun h => kf (Nat.not_le.mp fun h2 => h ((nI_leI hy ha).mpr h2)))
theorem mq_lt {x y : Nat} (ha : x < 2 ^ 31) (hy : y < 2 ^ 31) (hx : p.tables.exec = Jvm.exec) (hb : c.code = cc) {off : Int} {tgt : Nat} (hdg : decode cc pc = .ok (.if_icmp .lt off, 3)) (ht : (pc : Int) + off = (tgt : Int))
    (kt : x < y → W p l e R s m args below meth c H locs cells slots Q (F0 m tgt ls rest)) (kf : y ≤ x → W p l e R s m args below meth c H locs cells slots Q (F0 m (pc + 3) ls rest)) : W p l e R s m args below meth c H locs cells slots Q (F0 m pc ls (.int (nI y) :: .int (nI x) :: rest)) :=
  lv_icmp_lt hx hb hdg ht (fun h => kt ((nI_ltI ha hy).mp h)) (fun h => kf (Nat.not_lt.mp fun h2 => h ((nI_ltI ha hy).mpr h2)))
theorem mq_gt {x y : Nat} (ha : x < 2 ^ 31) (hy : y < 2 ^ 31) (hx : p.tables.exec = Jvm.exec) (hb : c.code = cc) {off : Int} {tgt : Nat} (hdg : decode cc pc = .ok (.if_icmp .gt off, 3)) (ht : (pc : Int) + off = (tgt : Int))
    (kt : y < x → W p l e R s m args below meth c H locs cells slots Q (F0 m tgt ls rest)) (kf : x ≤ y → W p l e R s m args below meth c H locs cells slots Q (F0 m (pc + 3) ls rest)) : W p l e R s m args below meth c H locs cells slots Q (F0 m pc ls (.int (nI y) :: .int (nI x) :: rest)) :=
  lv_icmp_gt hx hb hdg ht (fun h => kt ((nI_ltI hy ha).mp h)) (fun h => kf (Nat.not_lt.mp fun h2 => h ((nI_ltI hy ha).mpr h2)))
theorem mq_eq {x y : Nat} (ha : x < 2 ^ 31) (hy : y < 2 ^ 31) (hx : p.tables.exec = Jvm.exec) (hb : c.code = cc) {off : Int} {tgt : Nat} (hdg : decode cc pc = .ok (.if_icmp .eq off, 3)) (ht : (pc : Int) + off = (tgt : Int))
    (kt : x = y → W p l e R s m args below meth c H locs cells slots Q (F0 m tgt ls rest)) (kf : x ≠ y → W p l e R s m args below meth c H locs cells slots Q (F0 m (pc + 3) ls rest)) : W p l e R s m args below meth c H locs cells slots Q (F0 m pc ls (.int (nI y) :: .int (nI x) :: rest)) :=
  lv_icmp_eq hx hb hdg ht (fun h => kt (nI_inj ha hy h)) (fun h => kf fun h2 => h (congrArg nI h2))
theorem mq_ne {x y : Nat} (ha : x < 2 ^ 31) (hy : y < 2 ^ 31) (hx : p.tables.exec = Jvm.exec) (hb : c.code = cc) {off : Int} {tgt : Nat} (hdg : decode cc pc = .ok (.if_icmp .ne off, 3)) (ht : (pc : Int) + off = (tgt : Int))
    (kt : x ≠ y → W p l e R s m args below meth c H locs cells slots Q (F0 m tgt ls rest)) (kf : x = y → W p l e R s m args below meth c H locs cells slots Q (F0 m (pc + 3) ls rest)) : W p l e R s m args below meth c H locs cells slots Q (F0 m pc ls (.int (nI y) :: .int (nI x) :: rest)) :=
  lv_icmp_ne hx hb hdg ht (fun h => kt fun h2 => h (congrArg nI h2)) (fun h => kf (by
    by_cases h3 : nI x = nI y
    · exact nI_inj ha hy h3
    · exact absurd h h3))
theorem mq_z {x : Nat} (ha : x < 2 ^ 31) (hx : p.tables.exec = Jvm.exec) (hb : c.code = cc) {off : Int} {tgt : Nat} (hdg : decode cc pc = .ok (.ifCond .eq off, 3)) (ht : (pc : Int) + off = (tgt : Int))
    (kt : x = 0 → W p l e R s m args below meth c H locs cells slots Q (F0 m tgt ls rest)) (kf : 0 < x → W p l e R s m args below meth c H locs cells slots Q (F0 m (pc + 3) ls rest)) : W p l e R s m args below meth c H locs cells slots Q (F0 m pc ls (.int (nI x) :: rest)) :=
  lv_if_eq hx hb hdg ht (fun h => kt (nI_inj ha (by decide) (h.trans nI_0.symm))) (fun h => kf (Nat.pos_of_ne_zero fun h2 => h (by rw [h2]; exact nI_0)))
theorem mq_nz {x : Nat} (ha : x < 2 ^ 31) (hx : p.tables.exec = Jvm.exec) (hb : c.code = cc) {off : Int} {tgt : Nat} (hdg : decode cc pc = .ok (.ifCond .ne off, 3)) (ht : (pc : Int) + off = (tgt : Int))
    (kt : 0 < x → W p l e R s m args below meth c H locs cells slots Q (F0 m tgt ls rest)) (kf : x = 0 → W p l e R s m args below meth c H locs cells slots Q (F0 m (pc + 3) ls rest)) : W p l e R s m args below meth c H locs cells slots Q (F0 m pc ls (.int (nI x) :: rest)) :=
  lv_if_ne hx hb hdg ht (fun h => kt (Nat.pos_of_ne_zero fun h2 => h (by rw [h2]; exact nI_0))) (fun h => kf (nI_inj ha (by decide) (h.trans nI_0.symm)))
theorem mq_bz {b : Bool} (hx : p.tables.exec = Jvm.exec) (hb : c.code = cc) {off : Int} {tgt : Nat} (hdg : decode cc pc = .ok (.ifCond .eq off, 3)) (ht : (pc : Int) + off = (tgt : Int))
    (kt : b = false → W p l e R s m args below meth c H locs cells slots Q (F0 m tgt ls rest)) (kf : b = true → W p l e R s m args below meth c H locs cells slots Q (F0 m (pc + 3) ls rest)) : W p l e R s m args below meth c H locs cells slots Q (F0 m pc ls (.int (bI b) :: rest)) :=
  lv_if_eq hx hb hdg ht (fun h => kt (by cases b; rfl; exact absurd h (by decide))) (fun h => kf (by cases b; exact absurd rfl h; rfl))
theorem mq_bnz {b : Bool} (hx : p.tables.exec = Jvm.exec) (hb : c.code = cc) {off : Int} {tgt : Nat} (hdg : decode cc pc = .ok (.ifCond .ne off, 3)) (ht : (pc : Int) + off = (tgt : Int))
    (kt : b = true → W p l e R s m args below meth c H locs cells slots Q (F0 m tgt ls rest)) (kf : b = false → W p l e R s m args below meth c H locs cells slots Q (F0 m (pc + 3) ls rest)) : W p l e R s m args below meth c H locs cells slots Q (F0 m pc ls (.int (bI b) :: rest)) :=
  lv_if_ne hx hb hdg ht (fun h => kt (by cases b; exact absurd rfl h; rfl)) (fun h => kf (by cases b; rfl; exact absurd h (by decide)))
end MQ
/-! contracts of one form: a world before, a world behind, an answer -/
def ctP (D : va_G) (tys : List (ClassId × FieldType)) (w : va_W) (sz : Nat) (U : State) : Prop := U.heap.size = sz ∧ va_P D vwCl w U.heap ∧ va_K D vwCl tys U ∧ va_D (fun _ => True) w
def ctE (D : va_G) (tys : List (ClassId × FieldType)) (w' : va_W) (A : Nat → Prop) (t : State) : Prop := va_P D vwCl w' t.heap ∧ va_K D vwCl tys t ∧ va_D A w'
theorem ctP_blind {D : va_G} {tys : List (ClassId × FieldType)} {w : va_W} {sz : Nat} {av : List Value} : FrameBlind (va_Pc av (ctP D tys w sz)) := fun a U g mk q => by
  obtain ⟨q0, q1, qP, qK, qD⟩ := q
  exact ⟨q0, q1, qP, va_K.moved (u := U) (U := U.calling g mk a) (Vm.Alike.refl U.vm) qK, qD⟩
abbrev ctQi (D : va_G) (tys : List (ClassId × FieldType)) (v : Int32) (w' : va_W) (A : Nat → Prop) : Array Value → State → Outcome → State → Prop := va_Qi (fun (r : Int32) (_ : Unit) => r = v) (fun _ => ctE D tys w' A) A
abbrev ctQv (D : va_G) (tys : List (ClassId × FieldType)) (w' : va_W) (A : Nat → Prop) : Array Value → State → Outcome → State → Prop := va_Qv (fun _ : Unit => True) (fun _ => ctE D tys w' A) A
def CtI (l : Launch) (y : MethodName) (ws : List Cond) (rm : Room) (D : va_G) (tys : List (ClassId × FieldType)) (av : List Value) (w : va_W) (v : Int32) (w' : va_W) : Prop :=
  ∀ sz : Nat, Met l y ws rm (va_Pc av (ctP D tys w sz)) (ctQi D tys v w' (va_A w sz)) 0 0 (va_A w sz)
def CtV (l : Launch) (y : MethodName) (ws : List Cond) (rm : Room) (D : va_G) (tys : List (ClassId × FieldType)) (av : List Value) (w : va_W) (w' : va_W) : Prop :=
  ∀ sz : Nat, Met l y ws rm (va_Pc av (ctP D tys w sz)) (ctQv D tys w' (va_A w sz)) 0 0 (va_A w sz)
theorem CtI.of {l : Launch} {y : MethodName} {ws ws0 : List Cond} {rm : Room} {D : va_G} {tys : List (ClassId × FieldType)} {av : List Value} {w : va_W} {v : Int32} {w' : va_W} {cc : ByteArray} {maxL : Nat} {ret : Option FieldType} {lv0 : List (Nat × Value)}
    (hy : plainName y.cls = true) (hw : ws = Cond.code y cc maxL ret :: ws0) (hle : (lg_sl av).length ≤ maxL) (hlv : lv_args 0 av = lv0)
    (body : ∀ (p : Program) (e : Env) (s : State) (m : MethodId) (below : List Frame) (meth : Method) (c : Code) (A : Nat → Prop) (ls : Array Slot) (args : Array Value) (Q : State → Prop), p.tables.exec = Jvm.exec → c.code = cc → c.maxLocals = maxL → meth.sig.returnType = ret → meth.locks = false → (∀ wd ∈ ws, wd.before args s = true) → s.vm.findClass y.cls = some m.cls → va_K D vwCl tys s → va_P D vwCl w s.heap → (∀ q : Nat, s.heap.size ≤ q → A q) → va_D A w → va_S A s.heap s.heap [] → lv_has ls maxL lv0 →
      Q = MQ below (ctQi D tys v w' A) args s 0 0 A → W p l e rm s m args below meth c s.heap [] 0 0 Q (F0 m 0 ls [])) : CtI l y ws rm D tys av w v w' := by
  intro sz
  refine Met.ofW (cc := cc) (maxL := maxL) (ret := ret) hy hw ?_
  intro p e s m args below meth c s₁ B hml hv
  obtain ⟨rfl, hsz, hP, hK, hD0⟩ := hv
  have hts := atoms_spec (ws := ws) B.pre
  subst hsz
  have hl := lv_entry av (n := maxL) hle
  rw [hlv] at hl
  rw [lg_entry_eq]
  have hD : va_D (va_A w s.heap.size) w := hD0.self (sz := s.heap.size)
  exact body p e s m below meth c (va_A w s.heap.size) _ _ _ B.exec B.bytes hml B.returns B.notSynchronized hts (findClass_of_methodNamed B.named) hK hP (fun q h => Or.inr h) hD va_S.rf hl rfl
theorem CtV.of {l : Launch} {y : MethodName} {ws ws0 : List Cond} {rm : Room} {D : va_G} {tys : List (ClassId × FieldType)} {av : List Value} {w : va_W} {w' : va_W} {cc : ByteArray} {maxL : Nat} {ret : Option FieldType} {lv0 : List (Nat × Value)}
    (hy : plainName y.cls = true) (hw : ws = Cond.code y cc maxL ret :: ws0) (hle : (lg_sl av).length ≤ maxL) (hlv : lv_args 0 av = lv0)
    (body : ∀ (p : Program) (e : Env) (s : State) (m : MethodId) (below : List Frame) (meth : Method) (c : Code) (A : Nat → Prop) (ls : Array Slot) (args : Array Value) (Q : State → Prop), p.tables.exec = Jvm.exec → c.code = cc → c.maxLocals = maxL → meth.sig.returnType = ret → meth.locks = false → (∀ wd ∈ ws, wd.before args s = true) → s.vm.findClass y.cls = some m.cls → va_K D vwCl tys s → va_P D vwCl w s.heap → (∀ q : Nat, s.heap.size ≤ q → A q) → va_D A w → va_S A s.heap s.heap [] → lv_has ls maxL lv0 →
      Q = MQ below (ctQv D tys w' A) args s 0 0 A → W p l e rm s m args below meth c s.heap [] 0 0 Q (F0 m 0 ls [])) : CtV l y ws rm D tys av w w' := by
  intro sz
  refine Met.ofW (cc := cc) (maxL := maxL) (ret := ret) hy hw ?_
  intro p e s m args below meth c s₁ B hml hv
  obtain ⟨rfl, hsz, hP, hK, hD0⟩ := hv
  have hts := atoms_spec (ws := ws) B.pre
  subst hsz
  have hl := lv_entry av (n := maxL) hle
  rw [hlv] at hl
  rw [lg_entry_eq]
  have hD : va_D (va_A w s.heap.size) w := hD0.self (sz := s.heap.size)
  exact body p e s m below meth c (va_A w s.heap.size) _ _ _ B.exec B.bytes hml B.returns B.notSynchronized hts (findClass_of_methodNamed B.named) hK hP (fun q h => Or.inr h) hD va_S.rf hl rfl
section CT
variable {p : Program} {l : Launch} {e : Env} {R : Room} {s : State} {m : MethodId} {args : Array Value} {below : List Frame} {meth : Method} {c : Code} {H : Heap} {locs : List Loc} {cells slots : Nat} {Q : State → Prop}
variable {cc : ByteArray} {pc : Nat} {ls : Array Slot} {rest st0 : List Value} {D : va_G} {A : Nat → Prop} {tys : List (ClassId × FieldType)} {ws ws' w' : va_W}
theorem CtI.ret {v r : Int32} (hQ : Q = MQ below (ctQi D tys v w' A) args s 0 0 A) (hx : p.tables.exec = Jvm.exec) (hb : c.code = cc) (hr : meth.sig.returnType = some .int) (hlk : meth.locks = false) (hK : va_K D vwCl tys s) (hP : va_P D vwCl ws H) (hD : va_D A ws) (hS : va_S A s.heap H locs) (hdg : decode cc pc = .ok (.ireturn, 1)) (hv : r = v) (hw : ws = w') :
    W p l e R s m args below meth c H locs 0 0 Q (F0 m pc ls [.int r]) := by
  subst hQ; subst hw; subst hv
  exact W.iret hx hb hr (fun t ht hW => ⟨⟨r, (), rfl, rfl, by rw [ht]; exact hP, va_K.moved hW.alike hK, hD⟩, hS.F ht⟩) hS.2.2 hdg hlk
theorem CtI.zret {v r : Int32} {ty : FieldType} (hQ : Q = MQ below (ctQi D tys v w' A) args s 0 0 A) (hx : p.tables.exec = Jvm.exec) (hb : c.code = cc) (hr : meth.sig.returnType = some ty) (hn : narrow ty (.int r) = .int r) (hlk : meth.locks = false) (hK : va_K D vwCl tys s) (hP : va_P D vwCl ws H) (hD : va_D A ws) (hS : va_S A s.heap H locs) (hdg : decode cc pc = .ok (.ireturn, 1)) (hv : r = v) (hw : ws = w') :
    W p l e R s m args below meth c H locs 0 0 Q (F0 m pc ls [.int r]) := by
  subst hQ; subst hw; subst hv
  exact W.zret hx hb hr hn (fun t ht hW => ⟨⟨r, (), rfl, rfl, by rw [ht]; exact hP, va_K.moved hW.alike hK, hD⟩, hS.F ht⟩) hS.2.2 hdg hlk
theorem CtV.ret (hQ : Q = MQ below (ctQv D tys w' A) args s 0 0 A) (hx : p.tables.exec = Jvm.exec) (hb : c.code = cc) (hr : meth.sig.returnType = none) (hlk : meth.locks = false) (hK : va_K D vwCl tys s) (hP : va_P D vwCl ws H) (hD : va_D A ws) (hS : va_S A s.heap H locs) (hdg : decode cc pc = .ok (.return_, 1)) (hw : ws = w') :
    W p l e R s m args below meth c H locs 0 0 Q (F0 m pc ls []) := by
  subst hQ; subst hw
  exact W.vret hx hb hr (fun t ht hW => ⟨⟨(), rfl, trivial, by rw [ht]; exact hP, va_K.moved hW.alike hK, hD⟩, hS.F ht⟩) hS.2.2 hdg hlk
theorem ct_fm {is : List Nat} {wa wb : va_W} (h : is.map (fun i => wa[i]?) = wb.map some) : is.filterMap (fun i => wa[i]?) = wb := by
  induction is generalizing wb with
  | nil =>
    cases wb with
    | nil => rfl
    | cons b bs => simp at h
  | cons i is ih =>
    cases wb with
    | nil => simp at h
    | cons b bs =>
      simp only [List.map_cons, List.cons.injEq] at h
      rw [List.filterMap_cons, h.1]
      show b :: _ = b :: bs
      rw [ih h.2]
/-- the caller's places of the callee's world; of the rest; and where each cell of the world behind comes from -/
def ctJ (ws wc wr w1 ws' : va_W) (isC isR ps : List Nat) : Prop := isC.map (fun i => ws[i]?) = wc.map some ∧ isR.map (fun i => ws[i]?) = wr.map some ∧ va_nd isC = true ∧ va_nd isR = true ∧ (isR.all fun i => decide (i ∉ isC)) = true ∧ ps.map (fun i => (wr ++ w1)[i]?) = ws'.map some ∧ va_nd ps = true
theorem ct_pre {wc : va_W} {av : List Value} {isC : List Nat} (hK : va_K D vwCl tys s) (hP : va_P D vwCl ws H) (hD : va_D A ws) (hC : isC.map (fun i => ws[i]?) = wc.map some) (hn : va_nd isC = true) : ∀ U : State, U.heap = H → s.WarmedH U.vm → va_Pc av (ctP D tys wc H.size) av.toArray U := by
  intro U hU hW
  exact ⟨rfl, by rw [hU], by rw [hU]; exact hP.sub isC (ct_fm hC), va_K.moved hW.alike hK, (hD.sub isC hn hC).weaken (fun _ _ _ _ => trivial)⟩
theorem ct_back {wc wr w1 : va_W} {isC isR ps : List Nat} {H1 : Heap} {t : State} (hJ : ctJ ws wc wr w1 ws' isC isR ps) (hP : va_P D vwCl ws H) (hD : va_D A ws) (hS : va_S A s.heap H locs) (hA : ∀ q : Nat, s.heap.size ≤ q → A q) (ht : t.heap = H1) (hB : ctE D tys w1 (va_A wc H.size) t) (hk : ∀ q : Nat, q < H.size → ¬ va_A wc H.size q → H1[q]? = H[q]?) : va_P D vwCl ws' H1 ∧ va_D A ws' := by
  obtain ⟨hC, hR, hnC, hnR, hdis, hps, hpn⟩ := hJ
  obtain ⟨hP1, -, hD1⟩ := hB
  rw [ht] at hP1
  obtain ⟨j1, j2⟩ := va_join hP hD isC isR hC hR hnR (fun i hi => by have := List.all_eq_true.mp hdis i hi; exact of_decide_eq_true this) hk (va_free hD hS hA isC hC) hP1 hD1
  exact ⟨j1.sub ps (ct_fm hps), j2.sub ps hpn hps⟩
/-- the code of a callee's call site that doesn't depend on the state -/
abbrev ctF (p : Program) (m : MethodId) (c : Code) (cc : ByteArray) (s : State) (args : Array Value) (Ts : List Cond) (own : String) : Prop := p.tables.exec = Jvm.exec ∧ c.code = cc ∧ s.vm.findClass own = some m.cls ∧ ∀ w ∈ Ts, w.before args s = true
theorem CtI.callV {y : MethodName} {wsy wsy0 : List Cond} {rmy : Room} {by_ : ByteArray} {maxLy nL n index : Nat} {rt : Option FieldType} {b ci q0 : Nat} {fs : List Value} {As : List Value} {Ts : List Cond} {own C : String} {qc : vw_C} {wc wr w1 : va_W} {isC isR ps : List Nat} {v : Int32}
    (hM : CtI l y wsy rmy D tys (.ref b :: As) wc v w1) (S : ctF p m c cc s args Ts own) (hG : GoodIn Ts (wsV own index C y wsy)) (hwy : wsy = Cond.code y by_ maxLy rt :: wsy0)
    (hd : y.cls = C ∧ y.cls ≠ "java/lang/invoke/MethodHandle" ∧ y.cls ≠ "java/lang/invoke/VarHandle" ∧ (parseMethodDescriptor y.desc).map (fun d => d.parameters.length) = some n) (hR : rmy.frames + 1 ≤ R.frames ∧ 8 + (maxLy + 11) + rmy.locals ≤ R.locals) (hrc : rmy.cells = 0 ∧ rmy.slots = 0) (hml : c.maxLocals = nL) (hls : ls.size = nL)
    (hK : va_K D vwCl tys s) (hP : va_P D vwCl ws H) (hD : va_D A ws) (hS : va_S A s.heap H locs) (hA : ∀ q : Nat, s.heap.size ≤ q → A q) (hJ : ctJ ws wc wr w1 ws' isC isR ps) (hrv : wc[q0]? = some (b, .inr (ci, fs))) (hcl : vwCl[ci]? = some qc ∧ qc.1 = C)
    (hst : st0 = As.reverse ++ .ref b :: rest) (hn : As.length = n) (hcat : (rest.map fun v => v.category).sum ≤ 8) (hcel : cells ≤ R.cells ∧ slots ≤ R.slots) (hdg : decode cc pc = .ok (.invokevirtual index, 3))
    (kk : ∀ (H1 : Heap) (locs1 : List Loc), va_P D vwCl ws' H1 → va_D A ws' → va_S A s.heap H1 locs1 → W p l e R s m args below meth c H1 locs1 cells slots Q (F0 m (pc + 3) ls (.int v :: rest))) : W p l e R s m args below meth c H locs cells slots Q (F0 m pc ls st0) := by
  obtain ⟨hx, hb, hown, hts⟩ := S
  have hF := va_free hD hS hA isC hJ.1
  have hPc := hP.sub isC (ct_fm hJ.1)
  have hrec := va_recv hK hPc hcl.1 hrv
  rw [hcl.2] at hrec
  refine va_calli (va_runV (As := As) (rest := rest) ⟨hx, hb, hml, hown, hts⟩ (hM H.size) (cwV n hts hG hwy hrc.1 hrc.2 hd hR) ⟨ctP_blind, hrec, ct_pre hK hP hD hJ.1 hJ.2.2.1⟩ rfl hn hls hst (lv_room hcat) hdg ⟨hcel.1, hcel.2⟩) hS (fun q _ h => hF q h) hF (fun r u t H1 locs1 ht hvm hw hB hz1 hk1 hS1 => ?_)
  obtain ⟨j1, j2⟩ := ct_back hJ hP hD hS hA ht hB hk1
  subst hw
  exact kk H1 locs1 j1 j2 hS1
theorem CtV.callV {y : MethodName} {wsy wsy0 : List Cond} {rmy : Room} {by_ : ByteArray} {maxLy nL n index : Nat} {rt : Option FieldType} {b ci q0 : Nat} {fs : List Value} {As : List Value} {Ts : List Cond} {own C : String} {qc : vw_C} {wc wr w1 : va_W} {isC isR ps : List Nat}
    (hM : CtV l y wsy rmy D tys (.ref b :: As) wc w1) (S : ctF p m c cc s args Ts own) (hG : GoodIn Ts (wsV own index C y wsy)) (hwy : wsy = Cond.code y by_ maxLy rt :: wsy0)
    (hd : y.cls = C ∧ y.cls ≠ "java/lang/invoke/MethodHandle" ∧ y.cls ≠ "java/lang/invoke/VarHandle" ∧ (parseMethodDescriptor y.desc).map (fun d => d.parameters.length) = some n) (hR : rmy.frames + 1 ≤ R.frames ∧ 8 + (maxLy + 11) + rmy.locals ≤ R.locals) (hrc : rmy.cells = 0 ∧ rmy.slots = 0) (hml : c.maxLocals = nL) (hls : ls.size = nL)
    (hK : va_K D vwCl tys s) (hP : va_P D vwCl ws H) (hD : va_D A ws) (hS : va_S A s.heap H locs) (hA : ∀ q : Nat, s.heap.size ≤ q → A q) (hJ : ctJ ws wc wr w1 ws' isC isR ps) (hrv : wc[q0]? = some (b, .inr (ci, fs))) (hcl : vwCl[ci]? = some qc ∧ qc.1 = C)
    (hst : st0 = As.reverse ++ .ref b :: rest) (hn : As.length = n) (hcat : (rest.map fun v => v.category).sum ≤ 8) (hcel : cells ≤ R.cells ∧ slots ≤ R.slots) (hdg : decode cc pc = .ok (.invokevirtual index, 3))
    (kk : ∀ (H1 : Heap) (locs1 : List Loc), va_P D vwCl ws' H1 → va_D A ws' → va_S A s.heap H1 locs1 → W p l e R s m args below meth c H1 locs1 cells slots Q (F0 m (pc + 3) ls rest)) : W p l e R s m args below meth c H locs cells slots Q (F0 m pc ls st0) := by
  obtain ⟨hx, hb, hown, hts⟩ := S
  have hF := va_free hD hS hA isC hJ.1
  have hPc := hP.sub isC (ct_fm hJ.1)
  have hrec := va_recv hK hPc hcl.1 hrv
  rw [hcl.2] at hrec
  refine va_callv (va_runV (As := As) (rest := rest) ⟨hx, hb, hml, hown, hts⟩ (hM H.size) (cwV n hts hG hwy hrc.1 hrc.2 hd hR) ⟨ctP_blind, hrec, ct_pre hK hP hD hJ.1 hJ.2.2.1⟩ rfl hn hls hst (lv_room hcat) hdg ⟨hcel.1, hcel.2⟩) hS (fun q _ h => hF q h) hF (fun u t H1 locs1 ht hvm hw hB hz1 hk1 hS1 => ?_)
  obtain ⟨j1, j2⟩ := ct_back hJ hP hD hS hA ht hB hk1
  exact kk H1 locs1 j1 j2 hS1
theorem CtI.callS {y : MethodName} {wsy wsy0 : List Cond} {rmy : Room} {by_ : ByteArray} {maxLy nL n index : Nat} {rt : Option FieldType} {As : List Value} {Ts : List Cond} {own : String} {wc wr w1 : va_W} {isC isR ps : List Nat} {v : Int32}
    (hM : CtI l y wsy rmy D tys As wc v w1) (S : ctF p m c cc s args Ts own) (hG : GoodIn Ts (va_wsS own index y wsy)) (hwy : wsy = Cond.code y by_ maxLy rt :: wsy0)
    (hd : y.cls ≠ "java/lang/invoke/MethodHandle" ∧ y.cls ≠ "java/lang/invoke/VarHandle" ∧ (parseMethodDescriptor y.desc).map (fun d => d.parameters.length) = some n) (hR : rmy.frames + 1 ≤ R.frames ∧ 8 + (maxLy + 11) + rmy.locals ≤ R.locals) (hrc : rmy.cells = 0 ∧ rmy.slots = 0) (hml : c.maxLocals = nL) (hls : ls.size = nL)
    (hK : va_K D vwCl tys s) (hP : va_P D vwCl ws H) (hD : va_D A ws) (hS : va_S A s.heap H locs) (hA : ∀ q : Nat, s.heap.size ≤ q → A q) (hJ : ctJ ws wc wr w1 ws' isC isR ps)
    (hst : st0 = As.reverse ++ rest) (hn : As.length = n) (hcat : (rest.map fun v => v.category).sum ≤ 8) (hcel : cells ≤ R.cells ∧ slots ≤ R.slots) (hdg : decode cc pc = .ok (.invokestatic index, 3))
    (kk : ∀ (H1 : Heap) (locs1 : List Loc), va_P D vwCl ws' H1 → va_D A ws' → va_S A s.heap H1 locs1 → W p l e R s m args below meth c H1 locs1 cells slots Q (F0 m (pc + 3) ls (.int v :: rest))) : W p l e R s m args below meth c H locs cells slots Q (F0 m pc ls st0) := by
  obtain ⟨hx, hb, hown, hts⟩ := S
  have hF := va_free hD hS hA isC hJ.1
  refine va_calli (va_runS (As := As) (rest := rest) ⟨hx, hb, hml, hown, hts⟩ (hM H.size) (va_cwS n hts hG hwy hrc.1 hrc.2 hd hR) ⟨ctP_blind, ct_pre hK hP hD hJ.1 hJ.2.2.1⟩ rfl hn hls hst (lv_room hcat) hdg ⟨hcel.1, hcel.2⟩) hS (fun q _ h => hF q h) hF (fun r u t H1 locs1 ht hvm hw hB hz1 hk1 hS1 => ?_)
  obtain ⟨j1, j2⟩ := ct_back hJ hP hD hS hA ht hB hk1
  subst hw
  exact kk H1 locs1 j1 j2 hS1
theorem CtV.callS {y : MethodName} {wsy wsy0 : List Cond} {rmy : Room} {by_ : ByteArray} {maxLy nL n index : Nat} {rt : Option FieldType} {As : List Value} {Ts : List Cond} {own : String} {wc wr w1 : va_W} {isC isR ps : List Nat}
    (hM : CtV l y wsy rmy D tys As wc w1) (S : ctF p m c cc s args Ts own) (hG : GoodIn Ts (va_wsS own index y wsy)) (hwy : wsy = Cond.code y by_ maxLy rt :: wsy0)
    (hd : y.cls ≠ "java/lang/invoke/MethodHandle" ∧ y.cls ≠ "java/lang/invoke/VarHandle" ∧ (parseMethodDescriptor y.desc).map (fun d => d.parameters.length) = some n) (hR : rmy.frames + 1 ≤ R.frames ∧ 8 + (maxLy + 11) + rmy.locals ≤ R.locals) (hrc : rmy.cells = 0 ∧ rmy.slots = 0) (hml : c.maxLocals = nL) (hls : ls.size = nL)
    (hK : va_K D vwCl tys s) (hP : va_P D vwCl ws H) (hD : va_D A ws) (hS : va_S A s.heap H locs) (hA : ∀ q : Nat, s.heap.size ≤ q → A q) (hJ : ctJ ws wc wr w1 ws' isC isR ps)
    (hst : st0 = As.reverse ++ rest) (hn : As.length = n) (hcat : (rest.map fun v => v.category).sum ≤ 8) (hcel : cells ≤ R.cells ∧ slots ≤ R.slots) (hdg : decode cc pc = .ok (.invokestatic index, 3))
    (kk : ∀ (H1 : Heap) (locs1 : List Loc), va_P D vwCl ws' H1 → va_D A ws' → va_S A s.heap H1 locs1 → W p l e R s m args below meth c H1 locs1 cells slots Q (F0 m (pc + 3) ls rest)) : W p l e R s m args below meth c H locs cells slots Q (F0 m pc ls st0) := by
  obtain ⟨hx, hb, hown, hts⟩ := S
  have hF := va_free hD hS hA isC hJ.1
  refine va_callv (va_runS (As := As) (rest := rest) ⟨hx, hb, hml, hown, hts⟩ (hM H.size) (va_cwS n hts hG hwy hrc.1 hrc.2 hd hR) ⟨ctP_blind, ct_pre hK hP hD hJ.1 hJ.2.2.1⟩ rfl hn hls hst (lv_room hcat) hdg ⟨hcel.1, hcel.2⟩) hS (fun q _ h => hF q h) hF (fun u t H1 locs1 ht hvm hw hB hz1 hk1 hS1 => ?_)
  obtain ⟨j1, j2⟩ := ct_back hJ hP hD hS hA ht hB hk1
  exact kk H1 locs1 j1 j2 hS1
end CT
end
section
/-! what a state is, as values; the cells that hold it; what each method makes of it -/
abbrev CBu : Type := Nat × Nat × (Nat → Option Nat) × (Nat → Nat) × Nat × (Nat → Bool) × Int32 × Int32 × Int32 × Int32 × Int32
abbrev LAu : Type := (Nat → Nat) × (Nat → Bool) × Nat × Nat
abbrev OBu : Type := (Nat → Int32) × (Nat → Int32) × CBu × CBu × LAu
abbrev MDu : Type := (Nat → Int32) × (Nat → Int32) × (Nat → Nat) × (Nat → Nat) × (Nat → Option Nat) × (Nat → Nat) × (Nat → Nat) × (Nat → Bool) × (Nat → Int32) × Int32 × Int32 × Int32 × Int32 × (Nat → Nat) × Nat × Nat
abbrev T3 (cyI cyZ cyJ : ClassId) : List (ClassId × FieldType) := [(cyI, .int), (cyZ, .boolean)]
abbrev CBc (cyI cyZ : ClassId) (h a1 a2 a3 : Nat) (u : CBu) : va_W := match u with
  | (sc, pl, ln, bn, n, dt, hi, sw, mi, hc, co) => [(h, .inr (0, [.int (nI sc), .int (nI pl), .ref a1, .ref a2, .int (nI n), .ref a3, .int hi, .int sw, .int mi, .int hc, .int co])), (a1, .inl (cyI, 16, .inl (fun j => oI (ln j)))), (a2, .inl (cyI, 8, .inl (fun j => nI (bn j)))), (a3, .inl (cyZ, 256, .inl (fun j => bI (dt j))))]
abbrev LAc (cyI cyZ : ClassId) (h a1 a2 : Nat) (u : LAu) : va_W := match u with
  | (ll, lw, lc, lx) => [(h, .inr (1, [.ref a1, .ref a2, .int (nI lc), .int (nI lx)])), (a1, .inl (cyI, 150, .inl (fun j => nI (ll j)))), (a2, .inl (cyZ, 150, .inl (fun j => bI (lw j))))]
abbrev OBo (cyI : ClassId) (h a1 a2 hu ht hla : Nat) (wr hm : Nat → Int32) : va_W := [(h, .inr (2, [.ref a1, .ref a2, .ref hu, .ref ht, .ref hla])), (a1, .inl (cyI, 1024, .inl wr)), (a2, .inl (cyI, 1024, .inl hm))]
abbrev MDc (cyI : ClassId) (h a1 a2 a3 a4 a5 a6 a7 a8 a9 a10 : Nat) (u : MDu) : va_W := match u with
  | (mw, mh, ms, mp, ml, mb, mm, md, mc, mhi, msw, mmi, mhc, ma, mq, mt) => [(h, .inr (3, [.ref a1, .ref a2, .ref a3, .ref a4, .ref a5, .ref a6, .ref a7, .ref a8, .ref a9, .int mhi, .int msw, .int mmi, .int mhc, .ref a10, .int (nI mq), .int (nI mt)])), (a1, .inl (cyI, 1024, .inl mw)), (a2, .inl (cyI, 1024, .inl mh)), (a3, .inl (cyI, 2, .inl (fun j => nI (ms j)))), (a4, .inl (cyI, 2, .inl (fun j => nI (mp j)))), (a5, .inl (cyI, 32, .inl (fun j => oI (ml j)))), (a6, .inl (cyI, 16, .inl (fun j => nI (mb j)))), (a7, .inl (cyI, 2, .inl (fun j => nI (mm j)))), (a8, .inl (cyI, 512, .inl (fun j => bI (md j)))), (a9, .inl (cyI, 2, .inl mc)), (a10, .inl (cyI, 150, .inl (fun j => nI (ma j))))]
/-! numbers and rows -/
def cI (b : Bool) (x : Int32) : Int32 := if b then x else 0
/-- from a up to b each takes its right neighbour's -/
def shl (f : Nat → Nat) (a b : Nat) : Nat → Nat := fun j => if a ≤ j ∧ j < b then f (j + 1) else f j
/-- from above a up to b each takes its left neighbour's -/
def shr (f : Nat → Nat) (a b : Nat) : Nat → Nat := fun j => if a < j ∧ j ≤ b then f (j - 1) else f j
/-- from a up to b all are v -/
def fil {α : Type} (f : Nat → α) (a b : Nat) (v : α) : Nat → α := fun j => if a ≤ j ∧ j < b then v else f j
/-- from a up to b as in g -/
def cpy {α : Type} (f g : Nat → α) (a b : Nat) : Nat → α := fun j => if a ≤ j ∧ j < b then g j else f j
/-- the first below n with p -/
def fnd (p : Nat → Bool) : Nat → Option Nat
  | 0 => none
  | n + 1 => match fnd p n with
    | some i => some i
    | none => if p n then some n else none
/-- how many below n with p -/
def cnt (p : Nat → Bool) : Nat → Nat
  | 0 => 0
  | n + 1 => cnt p n + (if p n then 1 else 0)
theorem fnd_none {p : Nat → Bool} : ∀ {n : Nat}, (∀ j, j < n → p j = false) → fnd p n = none
  | 0, _ => rfl
  | n + 1, h => by
    have h1 := fnd_none (p := p) (n := n) (fun j hj => h j (by omega))
    simp [fnd, h1, h n (by omega)]
theorem fnd_some {p : Nat → Bool} : ∀ {n i : Nat}, i < n → (∀ j, j < i → p j = false) → p i = true → fnd p n = some i
  | 0, i, hi, _, _ => absurd hi (Nat.not_lt_zero _)
  | n + 1, i, hi, h, hp => by
    by_cases h2 : i = n
    · subst h2
      simp [fnd, fnd_none h, hp]
    · simp [fnd, fnd_some (n := n) (by omega) h hp]
theorem fnd_of_none {p : Nat → Bool} : ∀ {n : Nat}, fnd p n = none → ∀ j, j < n → p j = false
  | 0, _, j, hj => absurd hj (Nat.not_lt_zero _)
  | n + 1, h, j, hj => by
    cases h1 : fnd p n with
    | some i => simp [fnd, h1] at h
    | none =>
      by_cases h2 : j = n
      · subst h2
        cases h3 : p j with
        | false => rfl
        | true => simp [fnd, h1, h3] at h
      · exact fnd_of_none h1 j (by omega)
theorem fnd_of_some {p : Nat → Bool} : ∀ {n i : Nat}, fnd p n = some i → i < n ∧ p i = true ∧ ∀ j, j < i → p j = false
  | 0, i, h => by simp [fnd] at h
  | n + 1, i, h => by
    cases h1 : fnd p n with
    | some k =>
      simp [fnd, h1] at h
      subst h
      obtain ⟨a, b, c⟩ := fnd_of_some h1
      exact ⟨by omega, b, c⟩
    | none =>
      cases h3 : p n with
      | false => simp [fnd, h1, h3] at h
      | true =>
        simp [fnd, h1, h3] at h
        subst h
        exact ⟨by omega, h3, fnd_of_none h1⟩
theorem cnt_le (p : Nat → Bool) : ∀ n, cnt p n ≤ n
  | 0 => Nat.le_refl _
  | n + 1 => by
    have := cnt_le p n
    unfold cnt
    split <;> omega
theorem cnt_s {p : Nat → Bool} {n : Nat} (h : p n = true) : cnt p (n + 1) = cnt p n + 1 := by simp [cnt, h]
theorem cnt_n {p : Nat → Bool} {n : Nat} (h : p n = false) : cnt p (n + 1) = cnt p n := by simp [cnt, h]
/-! the cache and its bench -/
def cb_empty (s' p' : Nat) : CBu → CBu := fun (sc, pl, ln, bn, n, dt, hi, sw, mi, hc, co) => (s', p', (fun _ => none), bn, 0, (fun _ => false), hi, sw, mi, hc, co)
def cb_bh (q : Nat) : CBu → CBu := fun (sc, pl, ln, bn, n, dt, hi, sw, mi, hc, co) => (sc, pl, ln, bn, n, ru dt q false, hi, sw, mi, hc + cI (dt q) 1, co + cI (dt q) 10)
def cb_leave (k : Nat) : CBu → CBu := fun (sc, pl, ln, bn, n, dt, hi, sw, mi, hc, co) => (sc, pl, ln, shl bn k (n - 1), n - 1, dt, hi, sw, mi, hc, co)
def cb_sit (q : Nat) : CBu → CBu := fun (sc, pl, ln, bn, n, dt, hi, sw, mi, hc, co) => (sc, pl, ln, ru bn n q, n + 1, dt, hi, sw, mi, hc, co)
def cb_seat (q : Nat) : CBu → Option Nat := fun (sc, pl, ln, bn, n, dt, hi, sw, mi, hc, co) => fnd (fun k => decide (bn k = q)) n
def cb_throw (s : Nat) : CBu → CBu := fun (sc, pl, ln, bn, n, dt, hi, sw, mi, hc, co) => match ln s with
  | none => (sc, pl, ln, bn, n, dt, hi, sw, mi, hc, co)
  | some q => if pl = 0 then cb_bh q (sc, pl, ru ln s none, bn, n, dt, hi, sw, mi, hc, co) else if pl ≤ n then cb_sit q (cb_leave 0 (cb_bh (bn 0) (sc, pl, ru ln s none, bn, n, dt, hi, sw, mi, hc, co))) else cb_sit q (sc, pl, ru ln s none, bn, n, dt, hi, sw, mi, hc, co)
def cb_put (s q : Nat) (w : Bool) : CBu → CBu := fun (sc, pl, ln, bn, n, dt, hi, sw, mi, hc, co) => (sc, pl, ru ln s (some q), bn, n, if w then ru dt q true else dt, hi, sw, mi, hc, co)
def cb_hit (q : Nat) (w : Bool) : CBu → CBu := fun (sc, pl, ln, bn, n, dt, hi, sw, mi, hc, co) => (sc, pl, ln, bn, n, if w then ru dt q true else dt, hi + 1, sw, mi, hc, co + 1)
def cb_missed : CBu → CBu := fun (sc, pl, ln, bn, n, dt, hi, sw, mi, hc, co) => (sc, pl, ln, bn, n, dt, hi, sw, mi + 1, hc, co + 20)
def cb_swapped : CBu → CBu := fun (sc, pl, ln, bn, n, dt, hi, sw, mi, hc, co) => (sc, pl, ln, bn, n, dt, hi, sw + 1, mi, hc, co + 3)
def cb_sc : CBu → Nat := fun (sc, pl, ln, bn, n, dt, hi, sw, mi, hc, co) => sc
def cb_ln : CBu → Nat → Option Nat := fun (sc, pl, ln, bn, n, dt, hi, sw, mi, hc, co) => ln
def cb_dt : CBu → Nat → Bool := fun (sc, pl, ln, bn, n, dt, hi, sw, mi, hc, co) => dt
def cb_co : CBu → Int32 := fun (sc, pl, ln, bn, n, dt, hi, sw, mi, hc, co) => co
def cb_hc : CBu → Int32 := fun (sc, pl, ln, bn, n, dt, hi, sw, mi, hc, co) => hc
def cb_acc (q : Nat) (w : Bool) (u : CBu) : CBu := if cb_ln u (q % cb_sc u) = some q then cb_hit q w u else match cb_seat q u with
  | none => cb_put (q % cb_sc u) q w (cb_throw (q % cb_sc u) (cb_missed u))
  | some k => cb_put (q % cb_sc u) q w (cb_throw (q % cb_sc u) (cb_leave k (cb_swapped u)))
def cb_bhS (i : Nat) (u : CBu) : CBu := match i with
  | 0 => u
  | i + 1 => match cb_ln u i with
    | none => cb_bhS i u
    | some q => cb_bh q (cb_bhS i u)
def cb_bhB (bn : Nat → Nat) (j : Nat) (u : CBu) : CBu := match j with
  | 0 => u
  | j + 1 => cb_bh (bn j) (cb_bhB bn j u)
def cb_bring : CBu → CBu := fun (sc, pl, ln, bn, n, dt, hi, sw, mi, hc, co) => cb_bhB bn n (cb_bhS sc (sc, pl, ln, bn, n, dt, hi, sw, mi, hc, co))
def cb_where (q : Nat) : CBu → Nat := fun (sc, pl, ln, bn, n, dt, hi, sw, mi, hc, co) => if ln (q % sc) = some q then 1 else if (fnd (fun k => decide (bn k = q)) n).isSome then 2 else 0
/-- small enough for every index -/
def cb_bd : CBu → Prop := fun (sc, pl, ln, bn, n, dt, hi, sw, mi, hc, co) => (sc = 1 ∨ sc = 2 ∨ sc = 4 ∨ sc = 8 ∨ sc = 16) ∧ pl ≤ 8 ∧ n ≤ 8 ∧ (∀ s q, ln s = some q → q < 256) ∧ ∀ k, k < n → bn k < 256

/-! the ring of the last accesses, the whole -/
def la_add (q : Nat) (w : Bool) : LAu → LAu := fun (ll, lw, lc, lx) => (ru ll lx q, ru lw lx w, if lc < 150 then lc + 1 else lc, if lx + 1 < 150 then lx + 1 else 0)
def la_slot (k : Nat) : LAu → Nat := fun (ll, lw, lc, lx) => ((if lc < 150 then 0 else lx) + k) % 150
def la_bd : LAu → Prop := fun (ll, lw, lc, lx) => lc ≤ 150 ∧ lx < 150 ∧ ∀ k, k < 150 → ll k < 256
theorem la_bd_add {la : LAu} {q : Nat} (w : Bool) (hq : q < 256) (h : la_bd la) : la_bd (la_add q w la) := by
  obtain ⟨ll, lw, lc, lx⟩ := la
  obtain ⟨h1, h2, h3⟩ := h
  refine ⟨?_, ?_, fun k hk => ?_⟩
  · show (if lc < 150 then lc + 1 else lc) ≤ 150
    split <;> omega
  · show (if lx + 1 < 150 then lx + 1 else 0) < 150
    split <;> omega
  · show ru ll lx q k < 256
    unfold ru
    split
    · exact hq
    · exact h3 k hk
/-- the k last accesses tried on a cache -/
def la_try (la : LAu) (k : Nat) (u : CBu) : CBu := match k with
  | 0 => u
  | k + 1 => cb_acc (la.1 (la_slot k la)) (la.2.1 (la_slot k la)) (la_try la k u)
def la_trial (la : LAu) (s' p' : Nat) (u : CBu) : CBu := la_try la la.2.2.1 (cb_empty s' p' u)
/-- the best number of places up to k, what it costs, the trial's cache behind -/
def la_best (la : LAu) (s' : Nat) (k : Nat) (u : CBu) : Nat × Int32 × CBu := match k with
  | 0 => (0, cb_co (la_trial la s' 0 u) - cb_co u, la_trial la s' 0 u)
  | k + 1 => match la_best la s' k u with
    | (b, c, t) => if cb_co (la_trial la s' (k + 1) t) - cb_co t < c then (k + 1, cb_co (la_trial la s' (k + 1) t) - cb_co t, la_trial la s' (k + 1) t) else (b, c, la_trial la s' (k + 1) t)
/-- how far on: the next word -/
def nxt (a : Nat) (z : Int) : Nat := (((a : Int) + z) % 1024).toNat
def adr (a : Nat) (z : Int) (k : Nat) : Nat := match k with
  | 0 => a
  | k + 1 => nxt (adr a z k) z
def ob_walk (a : Nat) (z : Int) (k : Nat) (u : CBu) (la : LAu) : CBu × LAu := match k with
  | 0 => (u, la)
  | k + 1 => (cb_acc (adr a z k / 4) false (ob_walk a z k u la).1, la_add (adr a z k / 4) false (ob_walk a z k u la).2)
theorem nxt_lt (a : Nat) (z : Int) : nxt a z < 1024 := by
  unfold nxt
  omega
theorem adr_lt {a : Nat} (z : Int) (h : a < 1024) : ∀ k, adr a z k < 1024
  | 0 => h
  | k + 1 => nxt_lt _ _
def cb_lines : CBu → Nat := fun (sc, pl, ln, bn, n, dt, hi, sw, mi, hc, co) => n + cnt (fun s => (ln s).isSome) sc
def cb_dirty : CBu → Nat := fun (sc, pl, ln, bn, n, dt, hi, sw, mi, hc, co) => cnt dt 256
end
section
/-! small laws of rows and numbers -/
theorem ru_id {α : Type} {f : Nat → α} {k : Nat} {v : α} (h : f k = v) : ru f k v = f := by
  funext j
  by_cases hj : j = k
  · subst hj; simp [ru, h]
  · simp [ru, hj]
theorem shl_0 (f : Nat → Nat) (a : Nat) : shl f a a = f := by
  funext j
  unfold shl
  rw [if_neg (by omega)]
theorem shl_s {f : Nat → Nat} {a i : Nat} (h : a ≤ i) : ru (shl f a i) i (shl f a i (i + 1)) = shl f a (i + 1) := by
  funext j
  unfold ru shl
  by_cases hj : j = i
  · subst hj
    rw [if_pos rfl, if_neg (by omega), if_pos (by omega)]
  · rw [if_neg hj]
    by_cases h2 : a ≤ j ∧ j < i
    · rw [if_pos h2, if_pos (by omega)]
    · rw [if_neg h2, if_neg (by omega)]
theorem fil_0 {α : Type} (f : Nat → α) (a : Nat) (v : α) : fil f a a v = f := by
  funext j
  unfold fil
  rw [if_neg (by omega)]
theorem fil_s {α : Type} {f : Nat → α} {a i : Nat} {v : α} (h : a ≤ i) : ru (fil f a i v) i v = fil f a (i + 1) v := by
  funext j
  unfold ru fil
  by_cases hj : j = i
  · subst hj
    rw [if_pos rfl, if_pos (by omega)]
  · rw [if_neg hj]
    by_cases h2 : a ≤ j ∧ j < i
    · rw [if_pos h2, if_pos (by omega)]
    · rw [if_neg h2, if_neg (by omega)]
theorem fil_in {α : Type} {f : Nat → α} {a b j : Nat} {v : α} (h1 : a ≤ j) (h2 : j < b) : fil f a b v j = v := by
  unfold fil
  rw [if_pos ⟨h1, h2⟩]
theorem cpy_0 {α : Type} (f g : Nat → α) (a : Nat) : cpy f g a a = f := by
  funext j
  unfold cpy
  rw [if_neg (by omega)]
theorem cpy_s {α : Type} {f g : Nat → α} {a i : Nat} (h : a ≤ i) : ru (cpy f g a i) i (g i) = cpy f g a (i + 1) := by
  funext j
  unfold ru cpy
  by_cases hj : j = i
  · subst hj
    rw [if_pos rfl, if_pos (by omega)]
  · rw [if_neg hj]
    by_cases h2 : a ≤ j ∧ j < i
    · rw [if_pos h2, if_pos (by omega)]
    · rw [if_neg h2, if_neg (by omega)]
theorem shr_0 (f : Nat → Nat) (b : Nat) : shr f b b = f := by
  funext j
  unfold shr
  rw [if_neg (by omega)]
/-- from the right: the places above i hold their left neighbours' already -/
theorem shr_s {f : Nat → Nat} {a i b : Nat} (h : a < i) (hb : i ≤ b) : ru (shr f i b) i (shr f i b (i - 1)) = shr f (i - 1) b := by
  funext j
  unfold ru shr
  by_cases hj : j = i
  · subst hj
    rw [if_pos rfl, if_neg (by omega), if_pos (by omega)]
  · rw [if_neg hj]
    by_cases h2 : i < j ∧ j ≤ b
    · rw [if_pos h2, if_pos (by omega)]
    · rw [if_neg h2, if_neg (by omega)]
theorem and_mask {q sc : Nat} (hq : q < 2 ^ 31) (hs : sc = 1 ∨ sc = 2 ∨ sc = 4 ∨ sc = 8 ∨ sc = 16) : nI q &&& nI (sc - 1) = nI (q % sc) := by
  rcases hs with rfl | rfl | rfl | rfl | rfl
  · exact pk_andN (by omega) 0 (by decide)
  · exact pk_andN (by omega) 1 (by decide)
  · exact pk_andN (by omega) 2 (by decide)
  · exact pk_andN (by omega) 3 (by decide)
  · exact pk_andN (by omega) 4 (by decide)
theorem mod16 {sc : Nat} (q : Nat) (hs : sc = 1 ∨ sc = 2 ∨ sc = 4 ∨ sc = 8 ∨ sc = 16) : q % sc < 16 := by
  rcases hs with rfl | rfl | rfl | rfl | rfl <;> omega
theorem modsc {sc : Nat} (q : Nat) (hs : sc = 1 ∨ sc = 2 ∨ sc = 4 ∨ sc = 8 ∨ sc = 16) : q % sc < sc := by
  rcases hs with rfl | rfl | rfl | rfl | rfl <;> omega
theorem oI_some (q : Nat) : oI (some q) = nI q := rfl
theorem cI_t (x : Int32) : cI true x = x := rfl
theorem cI_f (x : Int32) : cI false x = 0 := rfl
/-! what a step leaves within its bounds -/
theorem cb_bd_bh {u : CBu} (q : Nat) (h : cb_bd u) : cb_bd (cb_bh q u) := h
theorem cb_bd_leave {u : CBu} (k : Nat) (h : cb_bd u) : cb_bd (cb_leave k u) := by
  obtain ⟨sc, pl, ln, bn, n, dt, hi, sw, mi, hc, co⟩ := u
  obtain ⟨h1, h2, h3, h4, h5⟩ := h
  refine ⟨h1, h2, (by omega : n - 1 ≤ 8), h4, fun j hj => ?_⟩
  show shl bn k (n - 1) j < 256
  unfold shl
  split
  · exact h5 _ (by omega)
  · exact h5 _ (by omega)
theorem cb_bd_sit {u : CBu} {q : Nat} (hq : q < 256) (h : cb_bd u) (hn : u.2.2.2.2.1 < 8) : cb_bd (cb_sit q u) := by
  obtain ⟨sc, pl, ln, bn, n, dt, hi, sw, mi, hc, co⟩ := u
  obtain ⟨h1, h2, h3, h4, h5⟩ := h
  refine ⟨h1, h2, hn, h4, fun j hj => ?_⟩
  show ru bn n q j < 256
  unfold ru
  split
  · exact hq
  · exact h5 _ (by omega)
theorem cb_bd_none {u : CBu} (s : Nat) (h : cb_bd u) : cb_bd (u.1, u.2.1, ru u.2.2.1 s none, u.2.2.2) := by
  obtain ⟨sc, pl, ln, bn, n, dt, hi, sw, mi, hc, co⟩ := u
  obtain ⟨h1, h2, h3, h4, h5⟩ := h
  refine ⟨h1, h2, h3, fun s' q hq => ?_, h5⟩
  by_cases e : s' = s
  · subst e; exact absurd hq (by simp [ru])
  · exact h4 s' q (by simpa [ru, e] using hq)
theorem cb_bd_throw {u : CBu} (s : Nat) (h : cb_bd u) : cb_bd (cb_throw s u) := by
  obtain ⟨sc, pl, ln, bn, n, dt, hi, sw, mi, hc, co⟩ := u
  have h0 := h
  obtain ⟨h1, h2, h3, h4, h5⟩ := h0
  unfold cb_throw
  dsimp only
  cases hs : ln s with
  | none => exact h
  | some q =>
    have hq := h4 s q hs
    have hn := cb_bd_none s h
    dsimp only
    split
    · exact cb_bd_bh q hn
    · rename_i hp
      split
      · rename_i hp2
        refine cb_bd_sit hq (cb_bd_leave 0 (cb_bd_bh _ hn)) ?_
        show n - 1 < 8
        omega
      · rename_i hp2
        refine cb_bd_sit hq hn ?_
        show n < 8
        omega
theorem cb_bd_put {u : CBu} {s q : Nat} (w : Bool) (hq : q < 256) (h : cb_bd u) : cb_bd (cb_put s q w u) := by
  obtain ⟨sc, pl, ln, bn, n, dt, hi, sw, mi, hc, co⟩ := u
  obtain ⟨h1, h2, h3, h4, h5⟩ := h
  refine ⟨h1, h2, h3, fun s' r hr => ?_, h5⟩
  have hr : ru ln s (some q) s' = some r := hr
  unfold ru at hr
  split at hr
  · cases hr; exact hq
  · exact h4 s' r hr
theorem cb_bd_acc {u : CBu} {q : Nat} (w : Bool) (hq : q < 256) (h : cb_bd u) : cb_bd (cb_acc q w u) := by
  unfold cb_acc
  split
  · exact h
  · split
    · exact cb_bd_put w hq (cb_bd_throw _ (show cb_bd (cb_missed u) from h))
    · exact cb_bd_put w hq (cb_bd_throw _ (cb_bd_leave _ (show cb_bd (cb_swapped u) from h)))
theorem cb_bd_empty {u : CBu} {s' p' : Nat} (hs : s' = 1 ∨ s' = 2 ∨ s' = 4 ∨ s' = 8 ∨ s' = 16) (hp : p' ≤ 8) : cb_bd (cb_empty s' p' u) := by
  obtain ⟨sc, pl, ln, bn, n, dt, hi, sw, mi, hc, co⟩ := u
  exact ⟨hs, hp, Nat.zero_le _, fun _ _ h => by simp at h, fun k hk => absurd hk (Nat.not_lt_zero k)⟩
theorem cb_bhS_eq (i : Nat) (u : CBu) : ∃ (dt : Nat → Bool) (hc co : Int32), cb_bhS i u = (u.1, u.2.1, u.2.2.1, u.2.2.2.1, u.2.2.2.2.1, dt, u.2.2.2.2.2.2.1, u.2.2.2.2.2.2.2.1, u.2.2.2.2.2.2.2.2.1, hc, co) := by
  induction i with
  | zero => exact ⟨_, _, _, rfl⟩
  | succ i ih =>
    obtain ⟨dt, hc, co, ih⟩ := ih
    unfold cb_bhS
    split
    · exact ⟨dt, hc, co, ih⟩
    · rw [ih]; exact ⟨_, _, _, rfl⟩
theorem cb_bhB_eq (b : Nat → Nat) (i : Nat) (u : CBu) : ∃ (dt : Nat → Bool) (hc co : Int32), cb_bhB b i u = (u.1, u.2.1, u.2.2.1, u.2.2.2.1, u.2.2.2.2.1, dt, u.2.2.2.2.2.2.1, u.2.2.2.2.2.2.2.1, u.2.2.2.2.2.2.2.2.1, hc, co) := by
  induction i with
  | zero => exact ⟨_, _, _, rfl⟩
  | succ i ih =>
    obtain ⟨dt, hc, co, ih⟩ := ih
    unfold cb_bhB
    rw [ih]; exact ⟨_, _, _, rfl⟩
end
section
theorem la_slot_lt (k : Nat) (la : LAu) : la_slot k la < 150 := by
  obtain ⟨ll, lw, lc, lx⟩ := la
  exact Nat.mod_lt _ (by decide)
theorem cb_bd_try {la : LAu} {u : CBu} (hla : la_bd la) (hu : cb_bd u) : ∀ k, cb_bd (la_try la k u)
  | 0 => hu
  | k + 1 => by
    unfold la_try
    refine cb_bd_acc _ ?_ (cb_bd_try hla hu k)
    have h := la_slot_lt k la
    obtain ⟨ll, lw, lc, lx⟩ := la
    exact hla.2.2 _ h
theorem cb_bd_trial {la : LAu} {u : CBu} {s' p' : Nat} (hla : la_bd la) (hs : s' = 1 ∨ s' = 2 ∨ s' = 4 ∨ s' = 8 ∨ s' = 16) (hp : p' ≤ 8) : cb_bd (la_trial la s' p' u) := cb_bd_try hla (cb_bd_empty hs hp) _
theorem ob_walk_bd {a : Nat} {z : Int} {u : CBu} {la : LAu} (ha : a < 1024) (hu : cb_bd u) (hla : la_bd la) : ∀ k, cb_bd (ob_walk a z k u la).1 ∧ la_bd (ob_walk a z k u la).2
  | 0 => ⟨hu, hla⟩
  | k + 1 => by
    have h := adr_lt z ha k
    obtain ⟨h1, h2⟩ := ob_walk_bd (z := z) ha hu hla k
    exact ⟨cb_bd_acc _ (by omega) h1, la_bd_add _ (by omega) h2⟩
theorem cb_bd_bring {u : CBu} (hu : cb_bd u) : cb_bd (cb_bring u) := by
  obtain ⟨sc, pl, ln, bn, n, dt, hi, sw, mi, hc, co⟩ := u
  unfold cb_bring
  dsimp only
  obtain ⟨d1, h1, c1, e1⟩ := cb_bhS_eq sc (sc, pl, ln, bn, n, dt, hi, sw, mi, hc, co)
  rw [e1]
  obtain ⟨d2, h2, c2, e2⟩ := cb_bhB_eq bn n (sc, pl, ln, bn, n, d1, hi, sw, mi, h1, c1)
  dsimp only at e2 ⊢
  rw [e2]
  exact hu
theorem ofInt_toInt {z : Int} (h1 : -2147483648 ≤ z) (h2 : z < 2147483648) : (Int32.ofInt z).toInt = z := by
  rw [Int32.toInt_ofInt]
  show Int.bmod z 4294967296 = z
  exact Int.bmod_eq_of_le (by omega) (by omega)
theorem ofInt_ge {z : Int} (h1 : -64 ≤ z) (h2 : z ≤ 64) : ¬ Int32.ofInt z < -64 := by
  intro h
  have h3 := Int32.lt_iff_toInt_lt.mp h
  rw [ofInt_toInt (by omega) (by omega)] at h3
  have h4 : (-64 : Int32).toInt = -64 := by decide
  omega
theorem ofInt_le {z : Int} (h1 : -64 ≤ z) (h2 : z ≤ 64) : ¬ (64 : Int32) < Int32.ofInt z := by
  intro h
  have h3 := Int32.lt_iff_toInt_lt.mp h
  rw [ofInt_toInt (by omega) (by omega)] at h3
  have h4 : (64 : Int32).toInt = 64 := by decide
  omega
theorem nI_ofInt (n : Nat) : nI n = Int32.ofInt (n : Int) := rfl
theorem add_ofInt (a b : Int) : Int32.ofInt a + Int32.ofInt b = Int32.ofInt (a + b) := (Int32.ofInt_add a b).symm
theorem cpy_va {wr hm : Nat → Int32} {b k : Nat} {x y n : Int32} (hx : x = nI b) (hy : y = nI b) (hn : n = nI 4) (hb : b < 2 ^ 30) : va_cpy wr hm x.toNatClampNeg y.toNatClampNeg n.toNatClampNeg k = cpy hm wr b (b + 4) k := by
  subst hx; subst hy; subst hn
  rw [nI_clamp (by omega), nI_clamp (by omega)]
  unfold va_cpy cpy
  by_cases h : b ≤ k ∧ k < b + 4
  · rw [if_pos h, if_pos h]
    congr 1
    omega
  · rw [if_neg h, if_neg h]
theorem fm_pos (a : Nat) (z : Int) (h : 0 ≤ (a : Int) + z) : nI a + Int32.ofInt z = nI ((a : Int) + z).toNat := by
  rw [nI_ofInt, nI_ofInt, add_ofInt, Int.toNat_of_nonneg h]
theorem nxt_pos {a : Nat} {z : Int} (h : 0 ≤ (a : Int) + z) : ((a : Int) + z).toNat % 1024 = nxt a z := by
  unfold nxt
  omega
theorem nxt_up (a : Nat) (z : Int) (h : 0 ≤ (a : Int) + z + 1024) : ((a : Int) + z + 1024).toNat % 1024 = nxt a z := by
  unfold nxt
  omega
theorem fm_neg (a : Nat) (z : Int) (h : (a : Int) + z < 0) : nI a + Int32.ofInt z = -nI (-((a : Int) + z)).toNat := by
  rw [nI_ofInt, nI_ofInt, add_ofInt, ← Int32.ofInt_neg, Int.toNat_of_nonneg (by omega)]
  congr 1
  omega
theorem nxt_neg {a : Nat} {z : Int} (h : (a : Int) + z < 0) (h2 : -1024 ≤ (a : Int) + z) : 1024 - (-((a : Int) + z)).toNat = nxt a z := by
  unfold nxt
  omega
/-- what floorMod meets below 0: j from 1 to 64 -/
theorem fm_all : ∀ j : Fin 65, 0 < j.val → (-nI j.val) - (-nI j.val) / nI 1024 * nI 1024 = -nI j.val ∧ ((-nI j.val) ^^^ nI 1024) < 0 ∧ ¬ (-nI j.val) = 0 ∧ -nI j.val + nI 1024 = nI (1024 - j.val) := by decide +kernel
theorem fm_x {j : Nat} (h : j < 2048) : ¬ (nI j ^^^ nI 1024) < 0 := by
  have e : nI j ^^^ nI 1024 = nI (j ^^^ 1024) := by
    apply Int32.toBitVec_inj.mp
    rw [Int32.toBitVec_xor]
    show BitVec.ofNat 32 j ^^^ BitVec.ofNat 32 1024 = BitVec.ofNat 32 (j ^^^ 1024)
    exact (BitVec.ofNat_xor ..).symm
  rw [e]
  have := Nat.xor_lt_two_pow (n := 11) (x := j) (y := 1024) (by omega) (by omega)
  exact nI_pos (by omega)
theorem cb_sc16 {u : CBu} (h : cb_bd u) : u.1 ≤ 16 := by
  obtain ⟨sc, pl, ln, bn, n, dt, hi, sw, mi, hc, co⟩ := u
  obtain ⟨h1, -⟩ := h
  show sc ≤ 16
  omega
theorem cb_n8 {u : CBu} (h : cb_bd u) : u.2.2.2.2.1 ≤ 8 := by
  obtain ⟨sc, pl, ln, bn, n, dt, hi, sw, mi, hc, co⟩ := u
  exact h.2.2.1
theorem cb_ln256 {u : CBu} {k q : Nat} (h : cb_bd u) (hl : cb_ln u k = some q) : q < 256 := by
  obtain ⟨sc, pl, ln, bn, n, dt, hi, sw, mi, hc, co⟩ := u
  exact h.2.2.2.1 k q hl
/-- the same for a method whose owner has natives of its own -/
theorem CtI.ofF {l : Launch} {y : MethodName} {ws ws0 : List Cond} {rm : Room} {D : va_G} {tys : List (ClassId × FieldType)} {av : List Value} {w : va_W} {v : Int32} {w' : va_W} {cc : ByteArray} {maxL : Nat} {ret : Option FieldType} {lv0 : List (Nat × Value)}
    (hy : plainFor y = true) (hw : ws = Cond.code y cc maxL ret :: ws0) (hle : (lg_sl av).length ≤ maxL) (hlv : lv_args 0 av = lv0)
    (body : ∀ (p : Program) (e : Env) (s : State) (m : MethodId) (below : List Frame) (meth : Method) (c : Code) (A : Nat → Prop) (ls : Array Slot) (args : Array Value) (Q : State → Prop), p.tables.exec = Jvm.exec → c.code = cc → c.maxLocals = maxL → meth.sig.returnType = ret → meth.locks = false → (∀ wd ∈ ws, wd.before args s = true) → s.vm.findClass y.cls = some m.cls → va_K D vwCl tys s → va_P D vwCl w s.heap → (∀ q : Nat, s.heap.size ≤ q → A q) → va_D A w → va_S A s.heap s.heap [] → lv_has ls maxL lv0 →
      Q = MQ below (ctQi D tys v w' A) args s 0 0 A → W p l e rm s m args below meth c s.heap [] 0 0 Q (F0 m 0 ls [])) : CtI l y ws rm D tys av w v w' := by
  intro sz
  refine MetFree.of_bodySF (code := cc) (maxLocals := maxL) (ret := ret) hy ?_ ?_
  · intro args s m h hn
    obtain ⟨meth, c, h1, h2, h3, h4, h5, h6, -, -⟩ := Cond.code_spec hn (atoms_spec (ws := ws) h _ (by rw [hw]; exact List.mem_cons_self))
    exact ⟨meth, c, h1, h2, h3, h4, h5, h6⟩
  · intro p e s m args below meth c s₁ B hml hv _
    have hh0 : s₁.heap = s.heap := by rw [B.state]; rfl
    obtain ⟨rfl, hsz, hP, hK, hD0⟩ := hv
    have hts := atoms_spec (ws := ws) B.pre
    subst hsz
    have hl := lv_entry av (n := maxL) hle
    rw [hlv] at hl
    have hD : va_D (va_A w s.heap.size) w := hD0.self (sz := s.heap.size)
    have hb := body p e s m below meth c (va_A w s.heap.size) _ _ _ B.exec B.bytes hml B.returns B.notSynchronized hts (findClass_of_methodNamed B.named) hK hP (fun q h => Or.inr h) hD va_S.rf hl rfl
    rw [← lg_entry_eq] at hb
    obtain ⟨t, a1, o, b1, b2, b3⟩ := hb s₁ hh0 (Stand.of_body B)
    exact ⟨t, o, a1, b1, b2, ⟨b3.1, b3.2⟩⟩
end
section
/-! making: arrays of a known kind; contracts of constructors and their calls -/
section MK
variable {p : Program} {l : Launch} {e : Env} {R : Room} {s : State} {m : MethodId} {args : Array Value} {below : List Frame} {meth : Method} {c : Code} {H : Heap} {locs : List Loc} {cells slots : Nat} {Q : State → Prop}
variable {cc : ByteArray} {pc : Nat} {ls : Array Slot} {rest : List Value} {D : va_G} {cl : List vw_C} {A : Nat → Prop} {a : Nat} {tys : List (ClassId × FieldType)} {ws ws' : va_W} {H0 : Heap}
theorem mq_newa (hx : p.tables.exec = Jvm.exec) (hb : c.code = cc) {atype : ArrayType} (harr : (Cond.arrayClass (newarray.typeOf atype)).before args s = true) {ty : FieldType} (hty : newarray.typeOf atype = ty) (hK : va_K D cl tys s) (hP : va_P D cl ws H) (hD : va_D A ws) (hS : va_S A H0 H locs) (hA : ∀ q, H0.size ≤ q → A q)
    (t0 : Nat) {c0 : ClassId} (ht : tys[t0]? = some (c0, ty)) (hpr : ∀ cA : ClassId, va_RA s cA ty → s.vm.findClass ("[" ++ ty.toString) = some cA)
    {n : Int32} {N' : Nat} {a0 : vp_A} (ha : ∀ cA : ClassId, vp_cell cA a0 = arrV cA N' (fun _ => defaultValue ty)) (hn : ¬ n < 0) (hN : n.toNatClampNeg = N') (hbytes : N' * componentBytes ty ≤ 536870912) (hcells : cells + 1 ≤ R.cells) (hslots : slots + N' ≤ R.slots) (hdg : decode cc pc = .ok (.newarray atype, 2))
    (kk : ∀ (q : Nat) (H1 : Heap), va_P D cl (ws ++ [(q, .inl (c0, a0))]) H1 → va_D A (ws ++ [(q, .inl (c0, a0))]) → va_S A H0 H1 locs →
      W p l e R s m args below meth c H1 locs (cells + 1) (slots + N') Q (F0 m (pc + 2) ls (.ref q :: rest))) : W p l e R s m args below meth c H locs cells slots Q (F0 m pc ls (.int n :: rest)) := by
  refine va_newa hx hb harr hty hK hP hD hS hA ha hn hN hbytes hcells hslots hdg (fun q cA H1 hK1 hP1 hD1 hS1 => ?_)
  have h1 := hpr cA (hK1.2 tys.length (cA, ty) (by simp)).2
  have h2 := hpr c0 (hK.2 t0 _ ht).2
  have h3 : cA = c0 := Option.some.inj (h1.symm.trans h2)
  subst h3
  exact kk q H1 hP1 hD1 hS1
end MK
def CtN {S : Type} (l : Launch) (y : MethodName) (ws : List Cond) (rm : Room) (D : va_G) (tys : List (ClassId × FieldType)) (av : List Value) (w : va_W) (W1 : S → va_W) (N : State → Prop) (mc ms : Nat) : Prop :=
  ∀ sz : Nat, Met l y ws rm (va_Pc av (fun U => ctP D tys w sz U ∧ N U)) (va_Qv (fun _ : S => True) (fun u => ctE D tys (W1 u) (va_A w sz)) (va_A w sz)) mc ms (va_A w sz)
theorem CtN.of {S : Type} {l : Launch} {y : MethodName} {ws ws0 : List Cond} {rm : Room} {D : va_G} {tys : List (ClassId × FieldType)} {av : List Value} {w : va_W} {W1 : S → va_W} {N : State → Prop} {mc ms : Nat} {cc : ByteArray} {maxL : Nat} {ret : Option FieldType} {lv0 : List (Nat × Value)}
    (hy : plainName y.cls = true) (hw : ws = Cond.code y cc maxL ret :: ws0) (hle : (lg_sl av).length ≤ maxL) (hlv : lv_args 0 av = lv0)
    (body : ∀ (p : Program) (e : Env) (s : State) (m : MethodId) (below : List Frame) (meth : Method) (c : Code) (A : Nat → Prop) (ls : Array Slot) (args : Array Value) (Q : State → Prop), p.tables.exec = Jvm.exec → c.code = cc → c.maxLocals = maxL → meth.sig.returnType = ret → meth.locks = false → meth.name = y.name → N s → (∀ wd ∈ ws, wd.before args s = true) → s.vm.findClass y.cls = some m.cls → va_K D vwCl tys s → va_P D vwCl w s.heap → (∀ q : Nat, s.heap.size ≤ q → A q) → va_D A w → va_S A s.heap s.heap [] → lv_has ls maxL lv0 →
      Q = MQ below (va_Qv (fun _ : S => True) (fun u => ctE D tys (W1 u) A) A) args s mc ms A → W p l e rm s m args below meth c s.heap [] 0 0 Q (F0 m 0 ls [])) : CtN l y ws rm D tys av w W1 N mc ms := by
  intro sz
  refine Met.ofW (cc := cc) (maxL := maxL) (ret := ret) hy hw ?_
  intro p e s m args below meth c s₁ B hml hv
  obtain ⟨rfl, ⟨hsz, hP, hK, hD0⟩, hN⟩ := hv
  have hts := atoms_spec (ws := ws) B.pre
  subst hsz
  have hl := lv_entry av (n := maxL) hle
  rw [hlv] at hl
  rw [lg_entry_eq]
  have hD : va_D (va_A w s.heap.size) w := hD0.self (sz := s.heap.size)
  exact body p e s m below meth c (va_A w s.heap.size) _ _ _ B.exec B.bytes hml B.returns B.notSynchronized (name_of_methodNamed B.named B.method).1 hN hts (findClass_of_methodNamed B.named) hK hP (fun q h => Or.inr h) hD va_S.rf hl rfl
section CN
variable {p : Program} {l : Launch} {e : Env} {R : Room} {s : State} {m : MethodId} {args : Array Value} {below : List Frame} {meth : Method} {c : Code} {H : Heap} {locs : List Loc} {cells slots : Nat} {Q : State → Prop}
variable {cc : ByteArray} {pc : Nat} {ls : Array Slot} {rest st0 : List Value} {D : va_G} {A : Nat → Prop} {tys : List (ClassId × FieldType)} {ws ws' w' : va_W}
theorem CtN.ret {S : Type} {W1 : S → va_W} {mc ms : Nat} (u : S) (hQ : Q = MQ below (va_Qv (fun _ : S => True) (fun u => ctE D tys (W1 u) A) A) args s mc ms A) (hx : p.tables.exec = Jvm.exec) (hb : c.code = cc) (hr : meth.sig.returnType = none) (hlk : meth.locks = false) (hK : va_K D vwCl tys s) (hP : va_P D vwCl ws H) (hD : va_D A ws) (hS : va_S A s.heap H locs) (hdg : decode cc pc = .ok (.return_, 1)) (hw : ws = W1 u) :
    W p l e R s m args below meth c H locs mc ms Q (F0 m pc ls []) := by
  subst hQ; subst hw
  exact W.vret hx hb hr (fun t ht hW => ⟨⟨u, rfl, trivial, by rw [ht]; exact hP, va_K.moved hW.alike hK, hD⟩, hS.F ht⟩) hS.2.2 hdg hlk
theorem ct_preN {wc : va_W} {av : List Value} {isC : List Nat} {N : State → Prop} (hK : va_K D vwCl tys s) (hP : va_P D vwCl ws H) (hD : va_D A ws) (hC : isC.map (fun i => ws[i]?) = wc.map some) (hn : va_nd isC = true) (hN : ∀ U : State, U.heap = H → s.WarmedH U.vm → N U) : ∀ U : State, U.heap = H → s.WarmedH U.vm → va_Pc av (fun U => ctP D tys wc H.size U ∧ N U) av.toArray U := by
  intro U hU hW
  exact ⟨rfl, (ct_pre (av := av) hK hP hD hC hn U hU hW).2, hN U hU hW⟩
theorem ctPN_blind {w : va_W} {sz : Nat} {av : List Value} {N : State → Prop} (hN : ∀ (a : Array Value) (U : State) (g : JFrame) (mk : MethodId), N U → N (U.calling g mk a)) : FrameBlind (va_Pc av (fun U => ctP D tys w sz U ∧ N U)) := fun a U g mk q => ⟨q.1, (ctP_blind (av := av) a U g mk ⟨q.1, q.2.1⟩).2, hN a U g mk q.2.2⟩
theorem CtN.callI {S : Type} {W1 : S → va_W} {N : State → Prop} {mc ms : Nat} {y : MethodName} {wsy : List Cond} {rmy : Room} {by_ : ByteArray} {maxLy nL n index b : Nat} {As : List Value} {Ts : List Cond} {own : String} {wc wr : va_W} {isC isR : List Nat}
    (hM : CtN l y wsy rmy D tys (.ref b :: As) wc W1 N mc ms) (hF0 : ctF p m c cc s args Ts own) (cw : CallB R s args own index y by_ maxLy none wsy rmy mc ms n ∧ y.name = "<init>" ∧ (Cond.instanceMethod y).before args s = true)
    (hNb : ∀ (a : Array Value) (U : State) (g : JFrame) (mk : MethodId), N U → N (U.calling g mk a)) (hN : ∀ U : State, U.heap = H → s.WarmedH U.vm → N U) (hml : c.maxLocals = nL) (hls : ls.size = nL)
    (hK : va_K D vwCl tys s) (hP : va_P D vwCl ws H) (hD : va_D A ws) (hS : va_S A s.heap H locs) (hA : ∀ q : Nat, s.heap.size ≤ q → A q) (hC : isC.map (fun i => ws[i]?) = wc.map some) (hR : isR.map (fun i => ws[i]?) = wr.map some) (hnC : va_nd isC = true) (hnR : va_nd isR = true) (hdis : (isR.all fun i => decide (i ∉ isC)) = true)
    (hst : st0 = As.reverse ++ .ref b :: rest) (hn : As.length = n) (hcat : (rest.map fun v => v.category).sum ≤ 8) (hcel : cells + mc ≤ R.cells ∧ slots + ms ≤ R.slots) (hdg : decode cc pc = .ok (.invokespecial index, 3))
    (kk : ∀ (u : S) (H1 : Heap) (locs1 : List Loc), va_P D vwCl (wr ++ W1 u) H1 → va_D A (wr ++ W1 u) → va_S A s.heap H1 locs1 → W p l e R s m args below meth c H1 locs1 (cells + mc) (slots + ms) Q (F0 m (pc + 3) ls rest)) : W p l e R s m args below meth c H locs cells slots Q (F0 m pc ls st0) := by
  obtain ⟨hx, hb, hown, hts⟩ := hF0
  have hF := va_free hD hS hA isC hC
  refine va_callv (va_runI (As := As) (rest := rest) ⟨hx, hb, hml, hown, hts⟩ (hM H.size) cw ⟨ctPN_blind hNb, ct_preN hK hP hD hC hnC hN⟩ rfl hn hls hst (lv_room hcat) hdg hcel) hS (fun q _ h => hF q h) hF (fun u t H1 locs1 ht hvm hw hB hz1 hk1 hS1 => ?_)
  obtain ⟨hP1, -, hD1⟩ := hB
  rw [ht] at hP1
  obtain ⟨j1, j2⟩ := va_join hP hD isC isR hC hR hnR (fun i hi => by have := List.all_eq_true.mp hdis i hi; exact of_decide_eq_true this) hk1 hF hP1 hD1
  exact kk u H1 locs1 j1 j2 hS1
theorem CtN.callIN {S : Type} {W1 : S → va_W} {N : State → Prop} {mc ms : Nat} {y : MethodName} {wsy : List Cond} {rmy : Room} {by_ : ByteArray} {maxLy nL n index b : Nat} {As : List Value} {Ts : List Cond} {own host : String} {wc wr : va_W} {isC isR : List Nat}
    (hM : CtN l y wsy rmy D tys (.ref b :: As) wc W1 N mc ms) (hF0 : ctF p m c cc s args Ts own) (cw : va_CN R s args own index y host by_ maxLy none wsy rmy mc ms n ∧ y.name = "<init>" ∧ (Cond.instanceMethod y).before args s = true)
    (hNb : ∀ (a : Array Value) (U : State) (g : JFrame) (mk : MethodId), N U → N (U.calling g mk a)) (hN : ∀ U : State, U.heap = H → s.WarmedH U.vm → N U) (hml : c.maxLocals = nL) (hls : ls.size = nL)
    (hK : va_K D vwCl tys s) (hP : va_P D vwCl ws H) (hD : va_D A ws) (hS : va_S A s.heap H locs) (hA : ∀ q : Nat, s.heap.size ≤ q → A q) (hC : isC.map (fun i => ws[i]?) = wc.map some) (hR : isR.map (fun i => ws[i]?) = wr.map some) (hnC : va_nd isC = true) (hnR : va_nd isR = true) (hdis : (isR.all fun i => decide (i ∉ isC)) = true)
    (hst : st0 = As.reverse ++ .ref b :: rest) (hn : As.length = n) (hcat : (rest.map fun v => v.category).sum ≤ 8) (hcel : cells + mc ≤ R.cells ∧ slots + ms ≤ R.slots) (hdg : decode cc pc = .ok (.invokespecial index, 3))
    (kk : ∀ (u : S) (H1 : Heap) (locs1 : List Loc), va_P D vwCl (wr ++ W1 u) H1 → va_D A (wr ++ W1 u) → va_S A s.heap H1 locs1 → W p l e R s m args below meth c H1 locs1 (cells + mc) (slots + ms) Q (F0 m (pc + 3) ls rest)) : W p l e R s m args below meth c H locs cells slots Q (F0 m pc ls st0) := by
  obtain ⟨hx, hb, hown, hts⟩ := hF0
  have hF := va_free hD hS hA isC hC
  refine va_callv (va_runIN (As := As) (rest := rest) ⟨hx, hb, hml, hown, hts⟩ (hM H.size) cw ⟨ctPN_blind hNb, ct_preN hK hP hD hC hnC hN⟩ rfl hn hls hst (lv_room hcat) hdg hcel) hS (fun q _ h => hF q h) hF (fun u t H1 locs1 ht hvm hw hB hz1 hk1 hS1 => ?_)
  obtain ⟨hP1, -, hD1⟩ := hB
  rw [ht] at hP1
  obtain ⟨j1, j2⟩ := va_join hP hD isC isR hC hR hnR (fun i hi => by have := List.all_eq_true.mp hdis i hi; exact of_decide_eq_true this) hk1 hF hP1 hD1
  exact kk u H1 locs1 j1 j2 hS1
end CN
def noN (_ : State) : Prop := True
def lnkN (U : State) : Prop := va_Nw (.methodLinkNest RX2 30 yX1_init RX2) U
theorem noN_b : ∀ (a : Array Value) (U : State) (g : JFrame) (mk : MethodId), noN U → noN (U.calling g mk a) := fun _ _ _ _ h => h
theorem lnkN_b : ∀ (a : Array Value) (U : State) (g : JFrame) (mk : MethodId), lnkN U → lnkN (U.calling g mk a) := fun a U g mk h => va_Nw.same rfl (u := U) rfl h
end
section
abbrev rmJ7_fill_53178 : Room := { frames := 0, cells := 0, slots := 0, locals := 0 }
set_option maxRecDepth 100000 in
set_option maxHeartbeats 4000000 in
theorem c_J7_fill (l : Launch) (D : va_G) (cyI cyZ cyJ : ClassId) (a len : Nat) (row : Nat → Int32) (v : Int32) (hlen : len < 2 ^ 31) : CtV l yJ7_fill_53178 wsJ7_fill_53178 rmJ7_fill_53178 D (T3 cyI cyZ cyJ) [.ref a, .int v] ([(a, .inl (cyI, len, .inl row))]) ([(a, .inl (cyI, len, .inl (fil row 0 len v)))]) := by
  refine CtV.of (cc := cJ7_fill_53178) (maxL := 4) (ret := none) (lv0 := [(0, .ref a), (1, .int v)]) (by decide) rfl (Nat.le_of_ble_eq_true rfl) rfl ?_
  intro p e s m below meth c A ls args Q hx hb hml hr hlk hts hown hK hP hA hD hS hl hQ
  have hown : s.vm.findClass RJ7 = some m.cls := hown
  refine lv_iconst (v := nI 0) hx hb dJ7_fill_53178_0 (by decide) ?_
  refine lv_istore_n (lv' := [(2, .int (nI 0)), (0, .ref a), (1, .int v)]) hx hb dJ7_fill_53178_1 rfl hl (by decide) rfl (fun ls hl => ?_)
  refine lv_aload_n hx hb dJ7_fill_53178_2 rfl (lv_at hl 1 rfl) ?_
  refine va_alen (v := nI len) hx hb hK hP 0 0 rfl rfl rfl dJ7_fill_53178_3 ?_
  refine lv_istore_n (lv' := [(3, .int (nI len)), (2, .int (nI 0)), (0, .ref a), (1, .int v)]) hx hb dJ7_fill_53178_4 rfl hl (by decide) rfl (fun ls hl => ?_)
  rw [show row = (fil row 0 0 v) from (fil_0 row 0 v).symm] at hP hD
  have LP5 : ∀ (fu : Nat) (i : Nat) (H : Heap) (locs : List Loc) (ls : Array Slot), (i ≤ len) → len - i < fu → va_P D vwCl ([(a, .inl (cyI, len, .inl (fil row 0 i v)))]) H → va_D A ([(a, .inl (cyI, len, .inl (fil row 0 i v)))]) → va_S A s.heap H locs → lv_has ls 4 [(0, .ref a), (1, .int v), (2, .int (nI i)), (3, .int (nI len))] → W p l e rmJ7_fill_53178 s m args below meth c H locs 0 0 Q (F0 m 5 ls []) := by
    intro fu
    induction fu with
    | zero =>
      intro i H locs ls hi0 hfu
      exact absurd hfu (Nat.not_lt_zero _)
    | succ fu ih =>
      intro i H locs ls hi0 hfu hP hD hS hl
      refine lv_iload_n hx hb dJ7_fill_53178_5 rfl (lv_at hl 2 rfl) ?_
      refine lv_iload_n hx hb dJ7_fill_53178_6 rfl (lv_at hl 3 rfl) ?_
      refine mq_ge (x := i) (y := len) (tgt := 20) (by omega) (by omega) hx hb dJ7_fill_53178_7 (by decide) (fun c1 => ?_) (fun c1 => ?_)
      · have e : i = len := by omega
        subst e
        exact CtV.ret hQ hx hb hr hlk hK hP hD hS dJ7_fill_53178_20 rfl
      · refine lv_aload_n hx hb dJ7_fill_53178_10 rfl (lv_at hl 0 rfl) ?_
        refine lv_iload_n hx hb dJ7_fill_53178_11 rfl (lv_at hl 2 rfl) ?_
        refine lv_iload_n hx hb dJ7_fill_53178_12 rfl (lv_at hl 1 rfl) ?_
        refine mq_stR (k := i) (fil row 0 i v) v (ws' := [(a, .inl (cyI, len, .inl (ru (fil row 0 i v) i v)))]) hx hb hK hP hD hS 0 0 rfl rfl (by omega) hlen dJ7_fill_53178_13 rfl (fun H locs hP hD hS => ?_)
        rw [show (ru (fil row 0 i v) i v) = (fil row 0 (i + 1) v) from fil_s (Nat.zero_le i)] at hP hD
        refine lv_iinc (v := nI (i + 1)) (lv' := [(2, .int (nI (i + 1))), (0, .ref a), (1, .int v), (3, .int (nI len))]) hx hb dJ7_fill_53178_14 hl (k := 2) rfl (inc1 _) (by decide) rfl (fun ls hl => ?_)
        refine lv_goto (tgt := 5) hx hb dJ7_fill_53178_17 (by decide) ?_
        exact ih (i + 1) _ _ _ (by omega) (by omega) hP hD hS (lv_sub hl [1, 2, 0, 3] rfl)
  exact LP5 _ 0 _ _ _ (Nat.zero_le _) (Nat.lt_succ_self _) hP hD hS (lv_sub hl [2, 3, 1, 0] rfl)
abbrev rmX0_bringHomeIfDirty : Room := { frames := 0, cells := 0, slots := 0, locals := 0 }
set_option maxRecDepth 100000 in
set_option maxHeartbeats 4000000 in
theorem c_bh (l : Launch) (D : va_G) (cyI cyZ cyJ : ClassId) (h a1 a2 a3 : Nat) (sc pl : Nat) (ln : Nat → Option Nat) (bn : Nat → Nat) (n : Nat) (dt : Nat → Bool) (hi sw mi hc co : Int32) (q : Nat) (hq : q < 256) : CtV l yX0_bringHomeIfDirty wsX0_bringHomeIfDirty rmX0_bringHomeIfDirty D (T3 cyI cyZ cyJ) [.ref h, .int (nI q)] (CBc cyI cyZ h a1 a2 a3 (sc, pl, ln, bn, n, dt, hi, sw, mi, hc, co)) (CBc cyI cyZ h a1 a2 a3 (cb_bh q (sc, pl, ln, bn, n, dt, hi, sw, mi, hc, co))) := by
  refine CtV.of (cc := cX0_bringHomeIfDirty) (maxL := 2) (ret := none) (lv0 := [(0, .ref h), (1, .int (nI q))]) (by decide) rfl (Nat.le_of_ble_eq_true rfl) rfl ?_
  intro p e s m below meth c A ls args Q hx hb hml hr hlk hts hown hK hP hA hD hS hl hQ
  have hown : s.vm.findClass RX0 = some m.cls := hown
  have hi_RX0 : ∀ w ∈ wsX00, w ∈ wsX0_bringHomeIfDirty := by decide +kernel
  have hf_18 := hts (.fieldLink RX0 18 "OutcastBench$CacheAndBench" "dirtyLines" "[Z") (by decide +kernel)
  have hf_49 := hts (.fieldLink RX0 49 "OutcastBench$CacheAndBench" "costSoFar" "I") (by decide +kernel)
  have hf_71 := hts (.fieldLink RX0 71 "OutcastBench$CacheAndBench" "homecomingCount" "I") (by decide +kernel)
  refine lv_aload_n hx hb dX0_bringHomeIfDirty_0 rfl (lv_at hl 0 rfl) ?_
  refine va_get (D := D) (ci := 0) (v := .ref a3) (C := RX0) (T := TX0) (N := 11) hx hb hts hi_RX0 hown hK hP 0 rfl rfl 5 (by decide) hf_18 (fun _ h9 => h9) rfl dX0_bringHomeIfDirty_1 ?_
  refine lv_iload_n hx hb dX0_bringHomeIfDirty_4 rfl (lv_at hl 1 rfl) ?_
  refine mq_zld (k := q) dt hx hb hK hP 3 1 rfl rfl (by omega) (Nat.le_of_ble_eq_true rfl) dX0_bringHomeIfDirty_5 ?_
  refine mq_bz (b := (dt q)) (tgt := 37) hx hb dX0_bringHomeIfDirty_6 (by decide) (fun c1 => ?_) (fun c1 => ?_)
  · exact CtV.ret hQ hx hb hr hlk hK hP hD hS dX0_bringHomeIfDirty_37 (congrArg (CBc cyI cyZ h a1 a2 a3) (by simp only [cb_bh, c1, ru_id c1, cI_f]; simp))
  · refine lv_aload_n hx hb dX0_bringHomeIfDirty_9 rfl (lv_at hl 0 rfl) ?_
    refine va_get (D := D) (ci := 0) (v := .ref a3) (C := RX0) (T := TX0) (N := 11) hx hb hts hi_RX0 hown hK hP 0 rfl rfl 5 (by decide) hf_18 (fun _ h9 => h9) rfl dX0_bringHomeIfDirty_10 ?_
    refine lv_iload_n hx hb dX0_bringHomeIfDirty_13 rfl (lv_at hl 1 rfl) ?_
    refine lv_iconst (v := nI 0) hx hb dX0_bringHomeIfDirty_14 (by decide) ?_
    refine mq_zst (k := q) dt false (ws' := CBc cyI cyZ h a1 a2 a3 (sc, pl, ln, bn, n, ru dt q false, hi, sw, mi, hc, co)) hx hb hK hP hD hS 3 1 rfl rfl (by omega) (Nat.le_of_ble_eq_true rfl) dX0_bringHomeIfDirty_15 rfl (fun H locs hP hD hS => ?_)
    refine lv_aload_n hx hb dX0_bringHomeIfDirty_16 rfl (lv_at hl 0 rfl) ?_
    refine lv_dup hx hb dX0_bringHomeIfDirty_17 rfl ?_
    refine va_get (D := D) (ci := 0) (v := .int hc) (C := RX0) (T := TX0) (N := 11) hx hb hts hi_RX0 hown hK hP 0 rfl rfl 9 (by decide) hf_71 (fun _ h9 => h9) rfl dX0_bringHomeIfDirty_18 ?_
    refine lv_iconst (v := nI 1) hx hb dX0_bringHomeIfDirty_21 (by decide) ?_
    refine lv_iadd (x := hc) (y := 1) hx hb dX0_bringHomeIfDirty_22 ?_
    refine mq_put (D := D) (ci := 0) (v := .int (hc + 1)) (ty := .int) (C := RX0) (T := TX0) (N := 11) (ws' := CBc cyI cyZ h a1 a2 a3 (sc, pl, ln, bn, n, ru dt q false, hi, sw, mi, hc + 1, co)) hx hb hts hi_RX0 tyX0 tyX0_ok nmX0 hown hK hP hD hS 0 rfl rfl 9 (by decide) hf_71 (fun _ h9 => h9) rfl (by decide +kernel) rfl rfl (Nat.le_of_ble_eq_true rfl) dX0_bringHomeIfDirty_23 rfl (fun H locs hP hD hS => ?_)
    refine lv_aload_n hx hb dX0_bringHomeIfDirty_26 rfl (lv_at hl 0 rfl) ?_
    refine lv_dup hx hb dX0_bringHomeIfDirty_27 rfl ?_
    refine va_get (D := D) (ci := 0) (v := .int co) (C := RX0) (T := TX0) (N := 11) hx hb hts hi_RX0 hown hK hP 0 rfl rfl 10 (by decide) hf_49 (fun _ h9 => h9) rfl dX0_bringHomeIfDirty_28 ?_
    refine lv_bipush (v := nI 10) hx hb dX0_bringHomeIfDirty_31 (by decide) ?_
    refine lv_iadd (x := co) (y := 10) hx hb dX0_bringHomeIfDirty_33 ?_
    refine mq_put (D := D) (ci := 0) (v := .int (co + 10)) (ty := .int) (C := RX0) (T := TX0) (N := 11) (ws' := CBc cyI cyZ h a1 a2 a3 (sc, pl, ln, bn, n, ru dt q false, hi, sw, mi, hc + 1, co + 10)) hx hb hts hi_RX0 tyX0 tyX0_ok nmX0 hown hK hP hD hS 0 rfl rfl 10 (by decide) hf_49 (fun _ h9 => h9) rfl (by decide +kernel) rfl rfl (Nat.le_of_ble_eq_true rfl) dX0_bringHomeIfDirty_34 rfl (fun H locs hP hD hS => ?_)
    exact CtV.ret hQ hx hb hr hlk hK hP hD hS dX0_bringHomeIfDirty_37 (congrArg (CBc cyI cyZ h a1 a2 a3) (by simp only [cb_bh, c1, cI_t]))
abbrev rmX0_leaveBench : Room := { frames := 0, cells := 0, slots := 0, locals := 0 }
set_option maxRecDepth 100000 in
set_option maxHeartbeats 4000000 in
theorem c_leave (l : Launch) (D : va_G) (cyI cyZ cyJ : ClassId) (h a1 a2 a3 : Nat) (sc pl : Nat) (ln : Nat → Option Nat) (bn : Nat → Nat) (n : Nat) (dt : Nat → Bool) (hi sw mi hc co : Int32) (k : Nat) (hk : k < n) (hn : n ≤ 8) : CtV l yX0_leaveBench wsX0_leaveBench rmX0_leaveBench D (T3 cyI cyZ cyJ) [.ref h, .int (nI k)] (CBc cyI cyZ h a1 a2 a3 (sc, pl, ln, bn, n, dt, hi, sw, mi, hc, co)) (CBc cyI cyZ h a1 a2 a3 (cb_leave k (sc, pl, ln, bn, n, dt, hi, sw, mi, hc, co))) := by
  refine CtV.of (cc := cX0_leaveBench) (maxL := 3) (ret := none) (lv0 := [(0, .ref h), (1, .int (nI k))]) (by decide) rfl (Nat.le_of_ble_eq_true rfl) rfl ?_
  intro p e s m below meth c A ls args Q hx hb hml hr hlk hts hown hK hP hA hD hS hl hQ
  have hown : s.vm.findClass RX0 = some m.cls := hown
  have hi_RX0 : ∀ w ∈ wsX00, w ∈ wsX0_leaveBench := by decide +kernel
  have hf_15 := hts (.fieldLink RX0 15 "OutcastBench$CacheAndBench" "bench" "[I") (by decide +kernel)
  have hf_39 := hts (.fieldLink RX0 39 "OutcastBench$CacheAndBench" "seated" "I") (by decide +kernel)
  refine lv_aload_n hx hb dX0_leaveBench_0 rfl (lv_at hl 0 rfl) ?_
  refine lv_dup hx hb dX0_leaveBench_1 rfl ?_
  refine va_get (D := D) (ci := 0) (v := .int (nI n)) (C := RX0) (T := TX0) (N := 11) hx hb hts hi_RX0 hown hK hP 0 rfl rfl 4 (by decide) hf_39 (fun _ h9 => h9) rfl dX0_leaveBench_2 ?_
  refine lv_iconst (v := nI 1) hx hb dX0_leaveBench_5 (by decide) ?_
  refine mq_isub (x := n) (y := 1) (by omega) hx hb dX0_leaveBench_6 ?_
  refine mq_put (D := D) (ci := 0) (v := .int (nI (n - 1))) (ty := .int) (C := RX0) (T := TX0) (N := 11) (ws' := CBc cyI cyZ h a1 a2 a3 (sc, pl, ln, bn, n - 1, dt, hi, sw, mi, hc, co)) hx hb hts hi_RX0 tyX0 tyX0_ok nmX0 hown hK hP hD hS 0 rfl rfl 4 (by decide) hf_39 (fun _ h9 => h9) rfl (by decide +kernel) rfl rfl (Nat.le_of_ble_eq_true rfl) dX0_leaveBench_7 rfl (fun H locs hP hD hS => ?_)
  refine lv_iload_n hx hb dX0_leaveBench_10 rfl (lv_at hl 1 rfl) ?_
  refine lv_istore_n (lv' := [(2, .int (nI k)), (0, .ref h), (1, .int (nI k))]) hx hb dX0_leaveBench_11 rfl hl (by decide) rfl (fun ls hl => ?_)
  rw [show bn = (shl bn k k) from (shl_0 bn k).symm] at hP hD
  have LP12 : ∀ (fu : Nat) (i : Nat) (H : Heap) (locs : List Loc) (ls : Array Slot), (k ≤ i) → (i ≤ n - 1) → n - 1 - i < fu → va_P D vwCl (CBc cyI cyZ h a1 a2 a3 (sc, pl, ln, shl bn k i, n - 1, dt, hi, sw, mi, hc, co)) H → va_D A (CBc cyI cyZ h a1 a2 a3 (sc, pl, ln, shl bn k i, n - 1, dt, hi, sw, mi, hc, co)) → va_S A s.heap H locs → lv_has ls 3 [(0, .ref h), (1, .int (nI k)), (2, .int (nI i))] → W p l e rmX0_leaveBench s m args below meth c H locs 0 0 Q (F0 m 12 ls []) := by
    intro fu
    induction fu with
    | zero =>
      intro i H locs ls h1 h2 hfu
      exact absurd hfu (Nat.not_lt_zero _)
    | succ fu ih =>
      intro i H locs ls h1 h2 hfu hP hD hS hl
      refine lv_iload_n hx hb dX0_leaveBench_12 rfl (lv_at hl 2 rfl) ?_
      refine lv_aload_n hx hb dX0_leaveBench_13 rfl (lv_at hl 0 rfl) ?_
      refine va_get (D := D) (ci := 0) (v := .int (nI (n - 1))) (C := RX0) (T := TX0) (N := 11) hx hb hts hi_RX0 hown hK hP 0 rfl rfl 4 (by decide) hf_39 (fun _ h9 => h9) rfl dX0_leaveBench_14 ?_
      refine mq_ge (x := i) (y := (n - 1)) (tgt := 40) (by omega) (by omega) hx hb dX0_leaveBench_17 (by decide) (fun c1 => ?_) (fun c1 => ?_)
      · have e : i = n - 1 := by omega
        subst e
        exact CtV.ret hQ hx hb hr hlk hK hP hD hS dX0_leaveBench_40 rfl
      · refine lv_aload_n hx hb dX0_leaveBench_20 rfl (lv_at hl 0 rfl) ?_
        refine va_get (D := D) (ci := 0) (v := .ref a2) (C := RX0) (T := TX0) (N := 11) hx hb hts hi_RX0 hown hK hP 0 rfl rfl 3 (by decide) hf_15 (fun _ h9 => h9) rfl dX0_leaveBench_21 ?_
        refine lv_iload_n hx hb dX0_leaveBench_24 rfl (lv_at hl 2 rfl) ?_
        refine lv_aload_n hx hb dX0_leaveBench_25 rfl (lv_at hl 0 rfl) ?_
        refine va_get (D := D) (ci := 0) (v := .ref a2) (C := RX0) (T := TX0) (N := 11) hx hb hts hi_RX0 hown hK hP 0 rfl rfl 3 (by decide) hf_15 (fun _ h9 => h9) rfl dX0_leaveBench_26 ?_
        refine lv_iload_n hx hb dX0_leaveBench_29 rfl (lv_at hl 2 rfl) ?_
        refine lv_iconst (v := nI 1) hx hb dX0_leaveBench_30 (by decide) ?_
        refine mq_iadd (x := i) (y := 1) hx hb dX0_leaveBench_31 ?_
        refine mq_ld (k := (i + 1)) nI (shl bn k i) hx hb hK hP 2 0 rfl rfl (by omega) (Nat.le_of_ble_eq_true rfl) dX0_leaveBench_32 ?_
        refine mq_st (k := i) nI (shl bn k i) ((shl bn k i) (i + 1)) (ws' := CBc cyI cyZ h a1 a2 a3 (sc, pl, ln, ru (shl bn k i) i ((shl bn k i) (i + 1)), n - 1, dt, hi, sw, mi, hc, co)) hx hb hK hP hD hS 2 0 rfl rfl (by omega) (Nat.le_of_ble_eq_true rfl) dX0_leaveBench_33 rfl (fun H locs hP hD hS => ?_)
        rw [show (ru (shl bn k i) i ((shl bn k i) (i + 1))) = (shl bn k (i + 1)) from shl_s h1] at hP hD
        refine lv_iinc (v := nI (i + 1)) (lv' := [(2, .int (nI (i + 1))), (0, .ref h), (1, .int (nI k))]) hx hb dX0_leaveBench_34 hl (k := 2) rfl (inc1 _) (by decide) rfl (fun ls hl => ?_)
        refine lv_goto (tgt := 12) hx hb dX0_leaveBench_37 (by decide) ?_
        exact ih (i + 1) _ _ _ (by omega) (by omega) (by omega) hP hD hS (lv_sub hl [1, 2, 0] rfl)
  exact LP12 _ k _ _ _ (Nat.le_refl _) (by omega) (Nat.lt_succ_self _) hP hD hS (lv_sub hl [1, 2, 0] rfl)
abbrev rmX0_setOf : Room := { frames := 0, cells := 0, slots := 0, locals := 0 }
set_option maxRecDepth 100000 in
set_option maxHeartbeats 4000000 in
theorem c_setOf (l : Launch) (D : va_G) (cyI cyZ cyJ : ClassId) (h a1 a2 a3 : Nat) (sc pl : Nat) (ln : Nat → Option Nat) (bn : Nat → Nat) (n : Nat) (dt : Nat → Bool) (hi sw mi hc co : Int32) (q : Nat) (hs : sc = 1 ∨ sc = 2 ∨ sc = 4 ∨ sc = 8 ∨ sc = 16) (hq : q < 256) : CtI l yX0_setOf wsX0_setOf rmX0_setOf D (T3 cyI cyZ cyJ) [.ref h, .int (nI q)] (CBc cyI cyZ h a1 a2 a3 (sc, pl, ln, bn, n, dt, hi, sw, mi, hc, co)) (nI (q % sc)) (CBc cyI cyZ h a1 a2 a3 (sc, pl, ln, bn, n, dt, hi, sw, mi, hc, co)) := by
  refine CtI.of (cc := cX0_setOf) (maxL := 2) (ret := (some .int)) (lv0 := [(0, .ref h), (1, .int (nI q))]) (by decide) rfl (Nat.le_of_ble_eq_true rfl) rfl ?_
  intro p e s m below meth c A ls args Q hx hb hml hr hlk hts hown hK hP hA hD hS hl hQ
  have hown : s.vm.findClass RX0 = some m.cls := hown
  have hi_RX0 : ∀ w ∈ wsX00, w ∈ wsX0_setOf := by decide +kernel
  have hf_26 := hts (.fieldLink RX0 26 "OutcastBench$CacheAndBench" "setCount" "I") (by decide +kernel)
  refine lv_iload_n hx hb dX0_setOf_0 rfl (lv_at hl 1 rfl) ?_
  refine lv_aload_n hx hb dX0_setOf_1 rfl (lv_at hl 0 rfl) ?_
  refine va_get (D := D) (ci := 0) (v := .int (nI sc)) (C := RX0) (T := TX0) (N := 11) hx hb hts hi_RX0 hown hK hP 0 rfl rfl 0 (by decide) hf_26 (fun _ h9 => h9) rfl dX0_setOf_2 ?_
  refine lv_iconst (v := nI 1) hx hb dX0_setOf_5 (by decide) ?_
  refine mq_isub (x := sc) (y := 1) (by omega) hx hb dX0_setOf_6 ?_
  refine lv_iand (x := nI q) (y := nI (sc - 1)) hx hb dX0_setOf_7 ?_
  exact CtI.ret hQ hx hb hr hlk hK hP hD hS dX0_setOf_8 (and_mask (by omega) hs) rfl
abbrev rmX0_seatOf : Room := { frames := 0, cells := 0, slots := 0, locals := 0 }
set_option maxRecDepth 100000 in
set_option maxHeartbeats 4000000 in
theorem c_seatOf (l : Launch) (D : va_G) (cyI cyZ cyJ : ClassId) (h a1 a2 a3 : Nat) (sc pl : Nat) (ln : Nat → Option Nat) (bn : Nat → Nat) (n : Nat) (dt : Nat → Bool) (hi sw mi hc co : Int32) (q : Nat) (hn : n ≤ 8) (hb8 : ∀ k, k < n → bn k < 256) (hq : q < 256) : CtI l yX0_seatOf wsX0_seatOf rmX0_seatOf D (T3 cyI cyZ cyJ) [.ref h, .int (nI q)] (CBc cyI cyZ h a1 a2 a3 (sc, pl, ln, bn, n, dt, hi, sw, mi, hc, co)) (oI (fnd (fun k => decide (bn k = q)) n)) (CBc cyI cyZ h a1 a2 a3 (sc, pl, ln, bn, n, dt, hi, sw, mi, hc, co)) := by
  refine CtI.of (cc := cX0_seatOf) (maxL := 3) (ret := (some .int)) (lv0 := [(0, .ref h), (1, .int (nI q))]) (by decide) rfl (Nat.le_of_ble_eq_true rfl) rfl ?_
  intro p e s m below meth c A ls args Q hx hb hml hr hlk hts hown hK hP hA hD hS hl hQ
  have hown : s.vm.findClass RX0 = some m.cls := hown
  have hi_RX0 : ∀ w ∈ wsX00, w ∈ wsX0_seatOf := by decide +kernel
  have hf_15 := hts (.fieldLink RX0 15 "OutcastBench$CacheAndBench" "bench" "[I") (by decide +kernel)
  have hf_39 := hts (.fieldLink RX0 39 "OutcastBench$CacheAndBench" "seated" "I") (by decide +kernel)
  refine lv_iconst (v := nI 0) hx hb dX0_seatOf_0 (by decide) ?_
  refine lv_istore_n (lv' := [(2, .int (nI 0)), (0, .ref h), (1, .int (nI q))]) hx hb dX0_seatOf_1 rfl hl (by decide) rfl (fun ls hl => ?_)
  have LP2 : ∀ (fu : Nat) (i : Nat) (H : Heap) (locs : List Loc) (ls : Array Slot), (i ≤ n) → (∀ j, j < i → decide (bn j = q) = false) → n - i < fu → va_P D vwCl (CBc cyI cyZ h a1 a2 a3 (sc, pl, ln, bn, n, dt, hi, sw, mi, hc, co)) H → va_D A (CBc cyI cyZ h a1 a2 a3 (sc, pl, ln, bn, n, dt, hi, sw, mi, hc, co)) → va_S A s.heap H locs → lv_has ls 3 [(0, .ref h), (1, .int (nI q)), (2, .int (nI i))] → W p l e rmX0_seatOf s m args below meth c H locs 0 0 Q (F0 m 2 ls []) := by
    intro fu
    induction fu with
    | zero =>
      intro i H locs ls h2 hno hfu
      exact absurd hfu (Nat.not_lt_zero _)
    | succ fu ih =>
      intro i H locs ls h2 hno hfu hP hD hS hl
      refine lv_iload_n hx hb dX0_seatOf_2 rfl (lv_at hl 2 rfl) ?_
      refine lv_aload_n hx hb dX0_seatOf_3 rfl (lv_at hl 0 rfl) ?_
      refine va_get (D := D) (ci := 0) (v := .int (nI n)) (C := RX0) (T := TX0) (N := 11) hx hb hts hi_RX0 hown hK hP 0 rfl rfl 4 (by decide) hf_39 (fun _ h9 => h9) rfl dX0_seatOf_4 ?_
      refine mq_ge (x := i) (y := n) (tgt := 28) (by omega) (by omega) hx hb dX0_seatOf_7 (by decide) (fun c1 => ?_) (fun c1 => ?_)
      · refine lv_iconst (v := -1) hx hb dX0_seatOf_28 (by decide) ?_
        exact CtI.ret hQ hx hb hr hlk hK hP hD hS dX0_seatOf_29 (by rw [fnd_none (fun j hj => hno j (by omega))]; rfl) rfl
      · refine lv_aload_n hx hb dX0_seatOf_10 rfl (lv_at hl 0 rfl) ?_
        refine va_get (D := D) (ci := 0) (v := .ref a2) (C := RX0) (T := TX0) (N := 11) hx hb hts hi_RX0 hown hK hP 0 rfl rfl 3 (by decide) hf_15 (fun _ h9 => h9) rfl dX0_seatOf_11 ?_
        refine lv_iload_n hx hb dX0_seatOf_14 rfl (lv_at hl 2 rfl) ?_
        refine mq_ld (k := i) nI bn hx hb hK hP 2 0 rfl rfl (by omega) (Nat.le_of_ble_eq_true rfl) dX0_seatOf_15 ?_
        refine lv_iload_n hx hb dX0_seatOf_16 rfl (lv_at hl 1 rfl) ?_
        refine mq_ne (x := (bn i)) (y := q) (tgt := 22) (by have := hb8 i (by omega); omega) (by omega) hx hb dX0_seatOf_17 (by decide) (fun c2 => ?_) (fun c2 => ?_)
        · refine lv_iinc (v := nI (i + 1)) (lv' := [(2, .int (nI (i + 1))), (0, .ref h), (1, .int (nI q))]) hx hb dX0_seatOf_22 hl (k := 2) rfl (inc1 _) (by decide) rfl (fun ls hl => ?_)
          refine lv_goto (tgt := 2) hx hb dX0_seatOf_25 (by decide) ?_
          exact ih (i + 1) _ _ _ (by omega) (fun j hj => by by_cases e : j = i; (subst e; exact decide_eq_false c2); exact hno j (by omega)) (by omega) hP hD hS (lv_sub hl [1, 2, 0] rfl)
        · refine lv_iload_n hx hb dX0_seatOf_20 rfl (lv_at hl 2 rfl) ?_
          exact CtI.ret hQ hx hb hr hlk hK hP hD hS dX0_seatOf_21 (by rw [fnd_some (by omega) hno (decide_eq_true c2)]; rfl) rfl
  exact LP2 _ 0 _ _ _ (Nat.zero_le _) (fun j hj => absurd hj (Nat.not_lt_zero j)) (Nat.lt_succ_self _) hP hD hS (lv_sub hl [1, 2, 0] rfl)
abbrev rmX0_throwOut : Room := { frames := 1, cells := 0, slots := 0, locals := 22 }
set_option maxRecDepth 100000 in
set_option maxHeartbeats 4000000 in
theorem c_throw (l : Launch) (D : va_G) (cyI cyZ cyJ : ClassId) (h a1 a2 a3 : Nat) (sc pl : Nat) (ln : Nat → Option Nat) (bn : Nat → Nat) (n : Nat) (dt : Nat → Bool) (hi sw mi hc co : Int32) (si : Nat) (hsi : si < 16) (hbd : cb_bd (sc, pl, ln, bn, n, dt, hi, sw, mi, hc, co)) : CtV l yX0_throwOut wsX0_throwOut rmX0_throwOut D (T3 cyI cyZ cyJ) [.ref h, .int (nI si)] (CBc cyI cyZ h a1 a2 a3 (sc, pl, ln, bn, n, dt, hi, sw, mi, hc, co)) (CBc cyI cyZ h a1 a2 a3 (cb_throw si (sc, pl, ln, bn, n, dt, hi, sw, mi, hc, co))) := by
  refine CtV.of (cc := cX0_throwOut) (maxL := 3) (ret := none) (lv0 := [(0, .ref h), (1, .int (nI si))]) (by decide) rfl (Nat.le_of_ble_eq_true rfl) rfl ?_
  intro p e s m below meth c A ls args Q hx hb hml hr hlk hts hown hK hP hA hD hS hl hQ
  have hown : s.vm.findClass RX0 = some m.cls := hown
  have hi_RX0 : ∀ w ∈ wsX00, w ∈ wsX0_throwOut := by decide +kernel
  have hf_9 := hts (.fieldLink RX0 9 "OutcastBench$CacheAndBench" "lines" "[I") (by decide +kernel)
  have hf_15 := hts (.fieldLink RX0 15 "OutcastBench$CacheAndBench" "bench" "[I") (by decide +kernel)
  have hf_30 := hts (.fieldLink RX0 30 "OutcastBench$CacheAndBench" "placeCount" "I") (by decide +kernel)
  have hf_39 := hts (.fieldLink RX0 39 "OutcastBench$CacheAndBench" "seated" "I") (by decide +kernel)
  obtain ⟨hsc, hpl, hn8, hln, hb8⟩ := hbd
  refine lv_aload_n hx hb dX0_throwOut_0 rfl (lv_at hl 0 rfl) ?_
  refine va_get (D := D) (ci := 0) (v := .ref a1) (C := RX0) (T := TX0) (N := 11) hx hb hts hi_RX0 hown hK hP 0 rfl rfl 2 (by decide) hf_9 (fun _ h9 => h9) rfl dX0_throwOut_1 ?_
  refine lv_iload_n hx hb dX0_throwOut_4 rfl (lv_at hl 1 rfl) ?_
  refine mq_ld (k := si) oI ln hx hb hK hP 1 0 rfl rfl (by omega) (Nat.le_of_ble_eq_true rfl) dX0_throwOut_5 ?_
  rcases hls : ln si with _ | q
  · refine lv_istore_n (lv' := [(2, .int (oI none)), (0, .ref h), (1, .int (nI si))]) hx hb dX0_throwOut_6 rfl hl (by decide) rfl (fun ls hl => ?_)
    refine lv_iload_n hx hb dX0_throwOut_7 rfl (lv_at hl 0 rfl) ?_
    refine lv_iconst (v := -1) hx hb dX0_throwOut_8 (by decide) ?_
    refine lv_icmp_ne (x := oI none) (y := -1) (tgt := 13) hx hb dX0_throwOut_9 (by decide) (fun c1 => ?_) (fun c1 => ?_)
    · exact absurd rfl c1
    · exact CtV.ret hQ hx hb hr hlk hK hP hD hS dX0_throwOut_12 (congrArg (CBc cyI cyZ h a1 a2 a3) (by simp [cb_throw, hls]))
  · have hq : q < 256 := hln si q hls
    refine lv_istore_n (lv' := [(2, .int (nI q)), (0, .ref h), (1, .int (nI si))]) hx hb dX0_throwOut_6 rfl hl (by decide) rfl (fun ls hl => ?_)
    refine lv_iload_n hx hb dX0_throwOut_7 rfl (lv_at hl 0 rfl) ?_
    refine lv_iconst (v := -1) hx hb dX0_throwOut_8 (by decide) ?_
    refine lv_icmp_ne (x := nI q) (y := -1) (tgt := 13) hx hb dX0_throwOut_9 (by decide) (fun c1 => ?_) (fun c1 => ?_)
    · refine lv_aload_n hx hb dX0_throwOut_13 rfl (lv_at hl 1 rfl) ?_
      refine va_get (D := D) (ci := 0) (v := .ref a1) (C := RX0) (T := TX0) (N := 11) hx hb hts hi_RX0 hown hK hP 0 rfl rfl 2 (by decide) hf_9 (fun _ h9 => h9) rfl dX0_throwOut_14 ?_
      refine lv_iload_n hx hb dX0_throwOut_17 rfl (lv_at hl 2 rfl) ?_
      refine lv_iconst (v := -1) hx hb dX0_throwOut_18 (by decide) ?_
      refine mq_st (k := si) oI ln none (ws' := CBc cyI cyZ h a1 a2 a3 (sc, pl, ru ln si none, bn, n, dt, hi, sw, mi, hc, co)) hx hb hK hP hD hS 1 0 rfl rfl (by omega) (Nat.le_of_ble_eq_true rfl) dX0_throwOut_19 rfl (fun H locs hP hD hS => ?_)
      refine lv_aload_n hx hb dX0_throwOut_20 rfl (lv_at hl 1 rfl) ?_
      refine va_get (D := D) (ci := 0) (v := .int (nI pl)) (C := RX0) (T := TX0) (N := 11) hx hb hts hi_RX0 hown hK hP 0 rfl rfl 1 (by decide) hf_30 (fun _ h9 => h9) rfl dX0_throwOut_21 ?_
      refine mq_nz (x := pl) (tgt := 33) (by omega) hx hb dX0_throwOut_24 (by decide) (fun c2 => ?_) (fun c2 => ?_)
      · refine lv_aload_n hx hb dX0_throwOut_33 rfl (lv_at hl 1 rfl) ?_
        refine va_get (D := D) (ci := 0) (v := .int (nI n)) (C := RX0) (T := TX0) (N := 11) hx hb hts hi_RX0 hown hK hP 0 rfl rfl 4 (by decide) hf_39 (fun _ h9 => h9) rfl dX0_throwOut_34 ?_
        refine lv_aload_n hx hb dX0_throwOut_37 rfl (lv_at hl 1 rfl) ?_
        refine va_get (D := D) (ci := 0) (v := .int (nI pl)) (C := RX0) (T := TX0) (N := 11) hx hb hts hi_RX0 hown hK hP 0 rfl rfl 1 (by decide) hf_30 (fun _ h9 => h9) rfl dX0_throwOut_38 ?_
        refine mq_lt (x := n) (y := pl) (tgt := 59) (by omega) (by omega) hx hb dX0_throwOut_41 (by decide) (fun c3 => ?_) (fun c3 => ?_)
        · refine lv_aload_n hx hb dX0_throwOut_59 rfl (lv_at hl 1 rfl) ?_
          refine va_get (D := D) (ci := 0) (v := .ref a2) (C := RX0) (T := TX0) (N := 11) hx hb hts hi_RX0 hown hK hP 0 rfl rfl 3 (by decide) hf_15 (fun _ h9 => h9) rfl dX0_throwOut_60 ?_
          refine lv_aload_n hx hb dX0_throwOut_63 rfl (lv_at hl 1 rfl) ?_
          refine va_get (D := D) (ci := 0) (v := .int (nI n)) (C := RX0) (T := TX0) (N := 11) hx hb hts hi_RX0 hown hK hP 0 rfl rfl 4 (by decide) hf_39 (fun _ h9 => h9) rfl dX0_throwOut_64 ?_
          refine lv_iload_n hx hb dX0_throwOut_67 rfl (lv_at hl 0 rfl) ?_
          refine mq_st (k := n) nI bn q (ws' := CBc cyI cyZ h a1 a2 a3 (sc, pl, ru ln si none, ru bn n q, n, dt, hi, sw, mi, hc, co)) hx hb hK hP hD hS 2 0 rfl rfl (by omega) (Nat.le_of_ble_eq_true rfl) dX0_throwOut_68 rfl (fun H locs hP hD hS => ?_)
          refine lv_aload_n hx hb dX0_throwOut_69 rfl (lv_at hl 1 rfl) ?_
          refine lv_dup hx hb dX0_throwOut_70 rfl ?_
          refine va_get (D := D) (ci := 0) (v := .int (nI n)) (C := RX0) (T := TX0) (N := 11) hx hb hts hi_RX0 hown hK hP 0 rfl rfl 4 (by decide) hf_39 (fun _ h9 => h9) rfl dX0_throwOut_71 ?_
          refine lv_iconst (v := nI 1) hx hb dX0_throwOut_74 (by decide) ?_
          refine mq_iadd (x := n) (y := 1) hx hb dX0_throwOut_75 ?_
          refine mq_put (D := D) (ci := 0) (v := .int (nI (n + 1))) (ty := .int) (C := RX0) (T := TX0) (N := 11) (ws' := CBc cyI cyZ h a1 a2 a3 (sc, pl, ru ln si none, ru bn n q, n + 1, dt, hi, sw, mi, hc, co)) hx hb hts hi_RX0 tyX0 tyX0_ok nmX0 hown hK hP hD hS 0 rfl rfl 4 (by decide) hf_39 (fun _ h9 => h9) rfl (by decide +kernel) rfl rfl (Nat.le_of_ble_eq_true rfl) dX0_throwOut_76 rfl (fun H locs hP hD hS => ?_)
          exact CtV.ret hQ hx hb hr hlk hK hP hD hS dX0_throwOut_79 (congrArg (CBc cyI cyZ h a1 a2 a3) (by simp only [cb_throw, hls]; rw [if_neg (by omega), if_neg (by omega)]; rfl))
        · refine lv_aload_n hx hb dX0_throwOut_44 rfl (lv_at hl 1 rfl) ?_
          refine lv_aload_n hx hb dX0_throwOut_45 rfl (lv_at hl 1 rfl) ?_
          refine va_get (D := D) (ci := 0) (v := .ref a2) (C := RX0) (T := TX0) (N := 11) hx hb hts hi_RX0 hown hK hP 0 rfl rfl 3 (by decide) hf_15 (fun _ h9 => h9) rfl dX0_throwOut_46 ?_
          refine lv_iconst (v := nI 0) hx hb dX0_throwOut_49 (by decide) ?_
          refine mq_ld (k := 0) nI bn hx hb hK hP 2 0 rfl rfl (by omega) (Nat.le_of_ble_eq_true rfl) dX0_throwOut_50 ?_
          refine CtV.callV (n := 1) (q0 := 0) (ci := 0) (wc := CBc cyI cyZ h a1 a2 a3 (sc, pl, ru ln si none, bn, n, dt, hi, sw, mi, hc, co)) (wr := ([] : va_W)) (w1 := CBc cyI cyZ h a1 a2 a3 (sc, pl, ru ln si none, bn, n, ru dt (bn 0) false, hi, sw, mi, hc + cI (dt (bn 0)) 1, co + cI (dt (bn 0)) 10)) (ws' := CBc cyI cyZ h a1 a2 a3 (sc, pl, ru ln si none, bn, n, ru dt (bn 0) false, hi, sw, mi, hc + cI (dt (bn 0)) 1, co + cI (dt (bn 0)) 10)) (isC := [0, 1, 2, 3]) (isR := []) (ps := [0, 1, 2, 3]) (As := [.int (nI (bn 0))]) (rest := []) (c_bh l D cyI cyZ cyJ h a1 a2 a3 sc pl (ru ln si none) bn n dt hi sw mi hc co (bn 0) (hb8 0 (by omega))) ⟨hx, hb, hown, hts⟩ gX0_throwOut_X0_bringHomeIfDirty rfl ⟨rfl, by decide, by decide, by decide +kernel⟩ ⟨Nat.le_of_ble_eq_true rfl, Nat.le_of_ble_eq_true rfl⟩ ⟨rfl, rfl⟩ hml hl.1 hK hP hD hS hA ⟨rfl, rfl, rfl, rfl, rfl, rfl, rfl⟩ rfl ⟨rfl, rfl⟩ rfl rfl (Nat.le_of_ble_eq_true rfl) ⟨Nat.zero_le _, Nat.zero_le _⟩ dX0_throwOut_51 (fun H locs hP hD hS => ?_)
          refine lv_aload_n hx hb dX0_throwOut_54 rfl (lv_at hl 1 rfl) ?_
          refine lv_iconst (v := nI 0) hx hb dX0_throwOut_55 (by decide) ?_
          refine CtV.callV (n := 1) (q0 := 0) (ci := 0) (wc := CBc cyI cyZ h a1 a2 a3 (sc, pl, ru ln si none, bn, n, ru dt (bn 0) false, hi, sw, mi, hc + cI (dt (bn 0)) 1, co + cI (dt (bn 0)) 10)) (wr := ([] : va_W)) (w1 := CBc cyI cyZ h a1 a2 a3 (sc, pl, ru ln si none, shl bn 0 (n - 1), n - 1, ru dt (bn 0) false, hi, sw, mi, hc + cI (dt (bn 0)) 1, co + cI (dt (bn 0)) 10)) (ws' := CBc cyI cyZ h a1 a2 a3 (sc, pl, ru ln si none, shl bn 0 (n - 1), n - 1, ru dt (bn 0) false, hi, sw, mi, hc + cI (dt (bn 0)) 1, co + cI (dt (bn 0)) 10)) (isC := [0, 1, 2, 3]) (isR := []) (ps := [0, 1, 2, 3]) (As := [.int (nI 0)]) (rest := []) (c_leave l D cyI cyZ cyJ h a1 a2 a3 sc pl (ru ln si none) bn n (ru dt (bn 0) false) hi sw mi (hc + cI (dt (bn 0)) 1) (co + cI (dt (bn 0)) 10) 0 (by omega) hn8) ⟨hx, hb, hown, hts⟩ gX0_throwOut_X0_leaveBench rfl ⟨rfl, by decide, by decide, by decide +kernel⟩ ⟨Nat.le_of_ble_eq_true rfl, Nat.le_of_ble_eq_true rfl⟩ ⟨rfl, rfl⟩ hml hl.1 hK hP hD hS hA ⟨rfl, rfl, rfl, rfl, rfl, rfl, rfl⟩ rfl ⟨rfl, rfl⟩ rfl rfl (Nat.le_of_ble_eq_true rfl) ⟨Nat.zero_le _, Nat.zero_le _⟩ dX0_throwOut_56 (fun H locs hP hD hS => ?_)
          refine lv_aload_n hx hb dX0_throwOut_59 rfl (lv_at hl 1 rfl) ?_
          refine va_get (D := D) (ci := 0) (v := .ref a2) (C := RX0) (T := TX0) (N := 11) hx hb hts hi_RX0 hown hK hP 0 rfl rfl 3 (by decide) hf_15 (fun _ h9 => h9) rfl dX0_throwOut_60 ?_
          refine lv_aload_n hx hb dX0_throwOut_63 rfl (lv_at hl 1 rfl) ?_
          refine va_get (D := D) (ci := 0) (v := .int (nI (n - 1))) (C := RX0) (T := TX0) (N := 11) hx hb hts hi_RX0 hown hK hP 0 rfl rfl 4 (by decide) hf_39 (fun _ h9 => h9) rfl dX0_throwOut_64 ?_
          refine lv_iload_n hx hb dX0_throwOut_67 rfl (lv_at hl 0 rfl) ?_
          refine mq_st (k := (n - 1)) nI (shl bn 0 (n - 1)) q (ws' := CBc cyI cyZ h a1 a2 a3 (sc, pl, ru ln si none, ru (shl bn 0 (n - 1)) (n - 1) q, n - 1, ru dt (bn 0) false, hi, sw, mi, hc + cI (dt (bn 0)) 1, co + cI (dt (bn 0)) 10)) hx hb hK hP hD hS 2 0 rfl rfl (by omega) (Nat.le_of_ble_eq_true rfl) dX0_throwOut_68 rfl (fun H locs hP hD hS => ?_)
          refine lv_aload_n hx hb dX0_throwOut_69 rfl (lv_at hl 1 rfl) ?_
          refine lv_dup hx hb dX0_throwOut_70 rfl ?_
          refine va_get (D := D) (ci := 0) (v := .int (nI (n - 1))) (C := RX0) (T := TX0) (N := 11) hx hb hts hi_RX0 hown hK hP 0 rfl rfl 4 (by decide) hf_39 (fun _ h9 => h9) rfl dX0_throwOut_71 ?_
          refine lv_iconst (v := nI 1) hx hb dX0_throwOut_74 (by decide) ?_
          refine mq_iadd (x := (n - 1)) (y := 1) hx hb dX0_throwOut_75 ?_
          refine mq_put (D := D) (ci := 0) (v := .int (nI (n - 1 + 1))) (ty := .int) (C := RX0) (T := TX0) (N := 11) (ws' := CBc cyI cyZ h a1 a2 a3 (sc, pl, ru ln si none, ru (shl bn 0 (n - 1)) (n - 1) q, n - 1 + 1, ru dt (bn 0) false, hi, sw, mi, hc + cI (dt (bn 0)) 1, co + cI (dt (bn 0)) 10)) hx hb hts hi_RX0 tyX0 tyX0_ok nmX0 hown hK hP hD hS 0 rfl rfl 4 (by decide) hf_39 (fun _ h9 => h9) rfl (by decide +kernel) rfl rfl (Nat.le_of_ble_eq_true rfl) dX0_throwOut_76 rfl (fun H locs hP hD hS => ?_)
          exact CtV.ret hQ hx hb hr hlk hK hP hD hS dX0_throwOut_79 (congrArg (CBc cyI cyZ h a1 a2 a3) (by simp only [cb_throw, hls]; rw [if_neg (by omega), if_pos c3]; rfl))
      · refine lv_aload_n hx hb dX0_throwOut_27 rfl (lv_at hl 1 rfl) ?_
        refine lv_iload_n hx hb dX0_throwOut_28 rfl (lv_at hl 0 rfl) ?_
        refine CtV.callV (n := 1) (q0 := 0) (ci := 0) (wc := CBc cyI cyZ h a1 a2 a3 (sc, pl, ru ln si none, bn, n, dt, hi, sw, mi, hc, co)) (wr := ([] : va_W)) (w1 := CBc cyI cyZ h a1 a2 a3 (sc, pl, ru ln si none, bn, n, ru dt q false, hi, sw, mi, hc + cI (dt q) 1, co + cI (dt q) 10)) (ws' := CBc cyI cyZ h a1 a2 a3 (sc, pl, ru ln si none, bn, n, ru dt q false, hi, sw, mi, hc + cI (dt q) 1, co + cI (dt q) 10)) (isC := [0, 1, 2, 3]) (isR := []) (ps := [0, 1, 2, 3]) (As := [.int (nI q)]) (rest := []) (c_bh l D cyI cyZ cyJ h a1 a2 a3 sc pl (ru ln si none) bn n dt hi sw mi hc co q hq) ⟨hx, hb, hown, hts⟩ gX0_throwOut_X0_bringHomeIfDirty rfl ⟨rfl, by decide, by decide, by decide +kernel⟩ ⟨Nat.le_of_ble_eq_true rfl, Nat.le_of_ble_eq_true rfl⟩ ⟨rfl, rfl⟩ hml hl.1 hK hP hD hS hA ⟨rfl, rfl, rfl, rfl, rfl, rfl, rfl⟩ rfl ⟨rfl, rfl⟩ rfl rfl (Nat.le_of_ble_eq_true rfl) ⟨Nat.zero_le _, Nat.zero_le _⟩ dX0_throwOut_29 (fun H locs hP hD hS => ?_)
        exact CtV.ret hQ hx hb hr hlk hK hP hD hS dX0_throwOut_32 (congrArg (CBc cyI cyZ h a1 a2 a3) (by simp only [cb_throw, hls]; rw [if_pos c2]; rfl))
    · exact absurd c1 (nI_m1 (by omega))
abbrev rmX0_access : Room := { frames := 2, cells := 0, slots := 0, locals := 44 }
set_option maxRecDepth 100000 in
set_option maxHeartbeats 4000000 in
theorem c_acc (l : Launch) (D : va_G) (cyI cyZ cyJ : ClassId) (h a1 a2 a3 : Nat) (sc pl : Nat) (ln : Nat → Option Nat) (bn : Nat → Nat) (n : Nat) (dt : Nat → Bool) (hi sw mi hc co : Int32) (q : Nat) (w : Bool) (hbd : cb_bd (sc, pl, ln, bn, n, dt, hi, sw, mi, hc, co)) (hq : q < 256) : CtV l yX0_access wsX0_access rmX0_access D (T3 cyI cyZ cyJ) [.ref h, .int (nI q), .int (bI w)] (CBc cyI cyZ h a1 a2 a3 (sc, pl, ln, bn, n, dt, hi, sw, mi, hc, co)) (CBc cyI cyZ h a1 a2 a3 (cb_acc q w (sc, pl, ln, bn, n, dt, hi, sw, mi, hc, co))) := by
  refine CtV.of (cc := cX0_access) (maxL := 5) (ret := none) (lv0 := [(0, .ref h), (1, .int (nI q)), (2, .int (bI w))]) (by decide) rfl (Nat.le_of_ble_eq_true rfl) rfl ?_
  intro p e s m below meth c A ls args Q hx hb hml hr hlk hts hown hK hP hA hD hS hl hQ
  have hown : s.vm.findClass RX0 = some m.cls := hown
  have hi_RX0 : ∀ w ∈ wsX00, w ∈ wsX0_access := by decide +kernel
  have hf_9 := hts (.fieldLink RX0 9 "OutcastBench$CacheAndBench" "lines" "[I") (by decide +kernel)
  have hf_18 := hts (.fieldLink RX0 18 "OutcastBench$CacheAndBench" "dirtyLines" "[Z") (by decide +kernel)
  have hf_46 := hts (.fieldLink RX0 46 "OutcastBench$CacheAndBench" "hitCount" "I") (by decide +kernel)
  have hf_49 := hts (.fieldLink RX0 49 "OutcastBench$CacheAndBench" "costSoFar" "I") (by decide +kernel)
  have hf_55 := hts (.fieldLink RX0 55 "OutcastBench$CacheAndBench" "missCount" "I") (by decide +kernel)
  have hf_58 := hts (.fieldLink RX0 58 "OutcastBench$CacheAndBench" "swapCount" "I") (by decide +kernel)
  have hbd0 := hbd
  obtain ⟨hsc, hpl, hn8, hln, hb8⟩ := hbd0
  have hs16 := mod16 q hsc
  refine lv_aload_n hx hb dX0_access_0 rfl (lv_at hl 0 rfl) ?_
  refine lv_iload_n hx hb dX0_access_1 rfl (lv_at hl 1 rfl) ?_
  refine CtI.callV (n := 1) (q0 := 0) (ci := 0) (wc := CBc cyI cyZ h a1 a2 a3 (sc, pl, ln, bn, n, dt, hi, sw, mi, hc, co)) (wr := ([] : va_W)) (w1 := CBc cyI cyZ h a1 a2 a3 (sc, pl, ln, bn, n, dt, hi, sw, mi, hc, co)) (ws' := CBc cyI cyZ h a1 a2 a3 (sc, pl, ln, bn, n, dt, hi, sw, mi, hc, co)) (isC := [0, 1, 2, 3]) (isR := []) (ps := [0, 1, 2, 3]) (As := [.int (nI q)]) (rest := []) (c_setOf l D cyI cyZ cyJ h a1 a2 a3 sc pl ln bn n dt hi sw mi hc co q hsc hq) ⟨hx, hb, hown, hts⟩ gX0_access_X0_setOf rfl ⟨rfl, by decide, by decide, by decide +kernel⟩ ⟨Nat.le_of_ble_eq_true rfl, Nat.le_of_ble_eq_true rfl⟩ ⟨rfl, rfl⟩ hml hl.1 hK hP hD hS hA ⟨rfl, rfl, rfl, rfl, rfl, rfl, rfl⟩ rfl ⟨rfl, rfl⟩ rfl rfl (Nat.le_of_ble_eq_true rfl) ⟨Nat.zero_le _, Nat.zero_le _⟩ dX0_access_2 (fun H locs hP hD hS => ?_)
  refine lv_istore_n (lv' := [(3, .int (nI (q % sc))), (0, .ref h), (1, .int (nI q)), (2, .int (bI w))]) hx hb dX0_access_5 rfl hl (by decide) rfl (fun ls hl => ?_)
  refine lv_aload_n hx hb dX0_access_6 rfl (lv_at hl 1 rfl) ?_
  refine va_get (D := D) (ci := 0) (v := .ref a1) (C := RX0) (T := TX0) (N := 11) hx hb hts hi_RX0 hown hK hP 0 rfl rfl 2 (by decide) hf_9 (fun _ h9 => h9) rfl dX0_access_7 ?_
  refine lv_iload_n hx hb dX0_access_10 rfl (lv_at hl 0 rfl) ?_
  refine mq_ld (k := (q % sc)) oI ln hx hb hK hP 1 0 rfl rfl hs16 (Nat.le_of_ble_eq_true rfl) dX0_access_11 ?_
  rcases hls : ln (q % sc) with _ | r
  · refine lv_iload_n hx hb dX0_access_12 rfl (lv_at hl 2 rfl) ?_
    refine lv_icmp_ne (x := oI none) (y := nI q) (tgt := 39) hx hb dX0_access_13 (by decide) (fun c1 => ?_) (fun c1 => ?_)
    · have hnh : ¬ cb_ln (sc, pl, ln, bn, n, dt, hi, sw, mi, hc, co) (q % cb_sc (sc, pl, ln, bn, n, dt, hi, sw, mi, hc, co)) = some q := by show ¬ ln (q % sc) = some q; rw [hls]; simp
      refine lv_aload_n hx hb dX0_access_39 rfl (lv_at hl 1 rfl) ?_
      refine lv_iload_n hx hb dX0_access_40 rfl (lv_at hl 2 rfl) ?_
      refine CtI.callV (n := 1) (q0 := 0) (ci := 0) (wc := CBc cyI cyZ h a1 a2 a3 (sc, pl, ln, bn, n, dt, hi, sw, mi, hc, co)) (wr := ([] : va_W)) (w1 := CBc cyI cyZ h a1 a2 a3 (sc, pl, ln, bn, n, dt, hi, sw, mi, hc, co)) (ws' := CBc cyI cyZ h a1 a2 a3 (sc, pl, ln, bn, n, dt, hi, sw, mi, hc, co)) (isC := [0, 1, 2, 3]) (isR := []) (ps := [0, 1, 2, 3]) (As := [.int (nI q)]) (rest := []) (c_seatOf l D cyI cyZ cyJ h a1 a2 a3 sc pl ln bn n dt hi sw mi hc co q hn8 hb8 hq) ⟨hx, hb, hown, hts⟩ gX0_access_X0_seatOf rfl ⟨rfl, by decide, by decide, by decide +kernel⟩ ⟨Nat.le_of_ble_eq_true rfl, Nat.le_of_ble_eq_true rfl⟩ ⟨rfl, rfl⟩ hml hl.1 hK hP hD hS hA ⟨rfl, rfl, rfl, rfl, rfl, rfl, rfl⟩ rfl ⟨rfl, rfl⟩ rfl rfl (Nat.le_of_ble_eq_true rfl) ⟨Nat.zero_le _, Nat.zero_le _⟩ dX0_access_41 (fun H locs hP hD hS => ?_)
      rcases hse : fnd (fun k => decide (bn k = q)) n with _ | k
      · refine lv_istore (lv' := [(4, .int (oI none)), (3, .int (nI (q % sc))), (0, .ref h), (1, .int (nI q)), (2, .int (bI w))]) hx hb dX0_access_44 hl (by decide) rfl (fun ls hl => ?_)
        refine lv_iload hx hb dX0_access_46 (lv_at hl 0 rfl) ?_
        refine lv_iconst (v := -1) hx hb dX0_access_48 (by decide) ?_
        refine lv_icmp_ne (x := oI none) (y := -1) (tgt := 76) hx hb dX0_access_49 (by decide) (fun c3 => ?_) (fun c3 => ?_)
        · exact absurd rfl c3
        · refine lv_aload_n hx hb dX0_access_52 rfl (lv_at hl 2 rfl) ?_
          refine lv_dup hx hb dX0_access_53 rfl ?_
          refine va_get (D := D) (ci := 0) (v := .int mi) (C := RX0) (T := TX0) (N := 11) hx hb hts hi_RX0 hown hK hP 0 rfl rfl 8 (by decide) hf_55 (fun _ h9 => h9) rfl dX0_access_54 ?_
          refine lv_iconst (v := nI 1) hx hb dX0_access_57 (by decide) ?_
          refine lv_iadd (x := mi) (y := 1) hx hb dX0_access_58 ?_
          refine mq_put (D := D) (ci := 0) (v := .int (mi + 1)) (ty := .int) (C := RX0) (T := TX0) (N := 11) (ws' := CBc cyI cyZ h a1 a2 a3 (sc, pl, ln, bn, n, dt, hi, sw, mi + 1, hc, co)) hx hb hts hi_RX0 tyX0 tyX0_ok nmX0 hown hK hP hD hS 0 rfl rfl 8 (by decide) hf_55 (fun _ h9 => h9) rfl (by decide +kernel) rfl rfl (Nat.le_of_ble_eq_true rfl) dX0_access_59 rfl (fun H locs hP hD hS => ?_)
          refine lv_aload_n hx hb dX0_access_62 rfl (lv_at hl 2 rfl) ?_
          refine lv_dup hx hb dX0_access_63 rfl ?_
          refine va_get (D := D) (ci := 0) (v := .int co) (C := RX0) (T := TX0) (N := 11) hx hb hts hi_RX0 hown hK hP 0 rfl rfl 10 (by decide) hf_49 (fun _ h9 => h9) rfl dX0_access_64 ?_
          refine lv_bipush (v := nI 20) hx hb dX0_access_67 (by decide) ?_
          refine lv_iadd (x := co) (y := 20) hx hb dX0_access_69 ?_
          refine mq_put (D := D) (ci := 0) (v := .int (co + 20)) (ty := .int) (C := RX0) (T := TX0) (N := 11) (ws' := CBc cyI cyZ h a1 a2 a3 (sc, pl, ln, bn, n, dt, hi, sw, mi + 1, hc, co + 20)) hx hb hts hi_RX0 tyX0 tyX0_ok nmX0 hown hK hP hD hS 0 rfl rfl 10 (by decide) hf_49 (fun _ h9 => h9) rfl (by decide +kernel) rfl rfl (Nat.le_of_ble_eq_true rfl) dX0_access_70 rfl (fun H locs hP hD hS => ?_)
          refine lv_goto (tgt := 102) hx hb dX0_access_73 (by decide) ?_
          refine lv_aload_n hx hb dX0_access_102 rfl (lv_at hl 2 rfl) ?_
          refine lv_iload_n hx hb dX0_access_103 rfl (lv_at hl 1 rfl) ?_
          obtain ⟨⟨sc1, pl1, ln1, bn1, n1, dt1, hi1, sw1, mi1, hc1, co1⟩, hu1⟩ : ∃ z : CBu, z = cb_throw (q % sc) (sc, pl, ln, bn, n, dt, hi, sw, mi + 1, hc, co + 20) := ⟨_, rfl⟩
          have hT := c_throw l D cyI cyZ cyJ h a1 a2 a3 sc pl ln bn n dt hi sw (mi + 1) hc (co + 20) (q % sc) hs16 hbd
          rw [← hu1] at hT
          refine CtV.callV (n := 1) (q0 := 0) (ci := 0) (wc := CBc cyI cyZ h a1 a2 a3 (sc, pl, ln, bn, n, dt, hi, sw, mi + 1, hc, co + 20)) (wr := ([] : va_W)) (w1 := CBc cyI cyZ h a1 a2 a3 (sc1, pl1, ln1, bn1, n1, dt1, hi1, sw1, mi1, hc1, co1)) (ws' := CBc cyI cyZ h a1 a2 a3 (sc1, pl1, ln1, bn1, n1, dt1, hi1, sw1, mi1, hc1, co1)) (isC := [0, 1, 2, 3]) (isR := []) (ps := [0, 1, 2, 3]) (As := [.int (nI (q % sc))]) (rest := []) (hT) ⟨hx, hb, hown, hts⟩ gX0_access_X0_throwOut rfl ⟨rfl, by decide, by decide, by decide +kernel⟩ ⟨Nat.le_of_ble_eq_true rfl, Nat.le_of_ble_eq_true rfl⟩ ⟨rfl, rfl⟩ hml hl.1 hK hP hD hS hA ⟨rfl, rfl, rfl, rfl, rfl, rfl, rfl⟩ rfl ⟨rfl, rfl⟩ rfl rfl (Nat.le_of_ble_eq_true rfl) ⟨Nat.zero_le _, Nat.zero_le _⟩ dX0_access_104 (fun H locs hP hD hS => ?_)
          refine lv_aload_n hx hb dX0_access_107 rfl (lv_at hl 2 rfl) ?_
          refine va_get (D := D) (ci := 0) (v := .ref a1) (C := RX0) (T := TX0) (N := 11) hx hb hts hi_RX0 hown hK hP 0 rfl rfl 2 (by decide) hf_9 (fun _ h9 => h9) rfl dX0_access_108 ?_
          refine lv_iload_n hx hb dX0_access_111 rfl (lv_at hl 1 rfl) ?_
          refine lv_iload_n hx hb dX0_access_112 rfl (lv_at hl 3 rfl) ?_
          refine mq_st (k := (q % sc)) oI ln1 (some q) (ws' := CBc cyI cyZ h a1 a2 a3 (sc1, pl1, ru ln1 (q % sc) (some q), bn1, n1, dt1, hi1, sw1, mi1, hc1, co1)) hx hb hK hP hD hS 1 0 rfl rfl (by omega) (Nat.le_of_ble_eq_true rfl) dX0_access_113 rfl (fun H locs hP hD hS => ?_)
          refine lv_iload_n hx hb dX0_access_114 rfl (lv_at hl 4 rfl) ?_
          refine mq_bz (b := w) (tgt := 125) hx hb dX0_access_115 (by decide) (fun cw => ?_) (fun cw => ?_)
          · exact CtV.ret hQ hx hb hr hlk hK hP hD hS dX0_access_125 (congrArg (CBc cyI cyZ h a1 a2 a3) (by unfold cb_acc; rw [if_neg hnh]; show _ = (match fnd (fun k => decide (bn k = q)) n with | none => cb_put (q % sc) q w (cb_throw (q % sc) (sc, pl, ln, bn, n, dt, hi, sw, mi + 1, hc, co + 20)) | some k => cb_put (q % sc) q w (cb_throw (q % sc) (cb_leave k (cb_swapped (sc, pl, ln, bn, n, dt, hi, sw, mi, hc, co))))); rw [hse, ← hu1]; simp only [cb_put, cw]; rfl))
          · refine lv_aload_n hx hb dX0_access_118 rfl (lv_at hl 2 rfl) ?_
            refine va_get (D := D) (ci := 0) (v := .ref a3) (C := RX0) (T := TX0) (N := 11) hx hb hts hi_RX0 hown hK hP 0 rfl rfl 5 (by decide) hf_18 (fun _ h9 => h9) rfl dX0_access_119 ?_
            refine lv_iload_n hx hb dX0_access_122 rfl (lv_at hl 3 rfl) ?_
            refine lv_iconst (v := nI 1) hx hb dX0_access_123 (by decide) ?_
            refine mq_zst (k := q) dt1 true (ws' := CBc cyI cyZ h a1 a2 a3 (sc1, pl1, ru ln1 (q % sc) (some q), bn1, n1, ru dt1 q true, hi1, sw1, mi1, hc1, co1)) hx hb hK hP hD hS 3 1 rfl rfl (by omega) (Nat.le_of_ble_eq_true rfl) dX0_access_124 rfl (fun H locs hP hD hS => ?_)
            exact CtV.ret hQ hx hb hr hlk hK hP hD hS dX0_access_125 (congrArg (CBc cyI cyZ h a1 a2 a3) (by unfold cb_acc; rw [if_neg hnh]; show _ = (match fnd (fun k => decide (bn k = q)) n with | none => cb_put (q % sc) q w (cb_throw (q % sc) (sc, pl, ln, bn, n, dt, hi, sw, mi + 1, hc, co + 20)) | some k => cb_put (q % sc) q w (cb_throw (q % sc) (cb_leave k (cb_swapped (sc, pl, ln, bn, n, dt, hi, sw, mi, hc, co))))); rw [hse, ← hu1]; simp only [cb_put, cw]; rfl))
      · obtain ⟨hkn, hkq, -⟩ := fnd_of_some hse
        refine lv_istore (lv' := [(4, .int (nI k)), (3, .int (nI (q % sc))), (0, .ref h), (1, .int (nI q)), (2, .int (bI w))]) hx hb dX0_access_44 hl (by decide) rfl (fun ls hl => ?_)
        refine lv_iload hx hb dX0_access_46 (lv_at hl 0 rfl) ?_
        refine lv_iconst (v := -1) hx hb dX0_access_48 (by decide) ?_
        refine lv_icmp_ne (x := nI k) (y := -1) (tgt := 76) hx hb dX0_access_49 (by decide) (fun c3 => ?_) (fun c3 => ?_)
        · refine lv_aload_n hx hb dX0_access_76 rfl (lv_at hl 2 rfl) ?_
          refine lv_dup hx hb dX0_access_77 rfl ?_
          refine va_get (D := D) (ci := 0) (v := .int sw) (C := RX0) (T := TX0) (N := 11) hx hb hts hi_RX0 hown hK hP 0 rfl rfl 7 (by decide) hf_58 (fun _ h9 => h9) rfl dX0_access_78 ?_
          refine lv_iconst (v := nI 1) hx hb dX0_access_81 (by decide) ?_
          refine lv_iadd (x := sw) (y := 1) hx hb dX0_access_82 ?_
          refine mq_put (D := D) (ci := 0) (v := .int (sw + 1)) (ty := .int) (C := RX0) (T := TX0) (N := 11) (ws' := CBc cyI cyZ h a1 a2 a3 (sc, pl, ln, bn, n, dt, hi, sw + 1, mi, hc, co)) hx hb hts hi_RX0 tyX0 tyX0_ok nmX0 hown hK hP hD hS 0 rfl rfl 7 (by decide) hf_58 (fun _ h9 => h9) rfl (by decide +kernel) rfl rfl (Nat.le_of_ble_eq_true rfl) dX0_access_83 rfl (fun H locs hP hD hS => ?_)
          refine lv_aload_n hx hb dX0_access_86 rfl (lv_at hl 2 rfl) ?_
          refine lv_dup hx hb dX0_access_87 rfl ?_
          refine va_get (D := D) (ci := 0) (v := .int co) (C := RX0) (T := TX0) (N := 11) hx hb hts hi_RX0 hown hK hP 0 rfl rfl 10 (by decide) hf_49 (fun _ h9 => h9) rfl dX0_access_88 ?_
          refine lv_iconst (v := nI 3) hx hb dX0_access_91 (by decide) ?_
          refine lv_iadd (x := co) (y := 3) hx hb dX0_access_92 ?_
          refine mq_put (D := D) (ci := 0) (v := .int (co + 3)) (ty := .int) (C := RX0) (T := TX0) (N := 11) (ws' := CBc cyI cyZ h a1 a2 a3 (sc, pl, ln, bn, n, dt, hi, sw + 1, mi, hc, co + 3)) hx hb hts hi_RX0 tyX0 tyX0_ok nmX0 hown hK hP hD hS 0 rfl rfl 10 (by decide) hf_49 (fun _ h9 => h9) rfl (by decide +kernel) rfl rfl (Nat.le_of_ble_eq_true rfl) dX0_access_93 rfl (fun H locs hP hD hS => ?_)
          refine lv_aload_n hx hb dX0_access_96 rfl (lv_at hl 2 rfl) ?_
          refine lv_iload hx hb dX0_access_97 (lv_at hl 0 rfl) ?_
          refine CtV.callV (n := 1) (q0 := 0) (ci := 0) (wc := CBc cyI cyZ h a1 a2 a3 (sc, pl, ln, bn, n, dt, hi, sw + 1, mi, hc, co + 3)) (wr := ([] : va_W)) (w1 := CBc cyI cyZ h a1 a2 a3 (sc, pl, ln, shl bn k (n - 1), n - 1, dt, hi, sw + 1, mi, hc, co + 3)) (ws' := CBc cyI cyZ h a1 a2 a3 (sc, pl, ln, shl bn k (n - 1), n - 1, dt, hi, sw + 1, mi, hc, co + 3)) (isC := [0, 1, 2, 3]) (isR := []) (ps := [0, 1, 2, 3]) (As := [.int (nI k)]) (rest := []) (c_leave l D cyI cyZ cyJ h a1 a2 a3 sc pl ln bn n dt hi (sw + 1) mi hc (co + 3) k hkn hn8) ⟨hx, hb, hown, hts⟩ gX0_access_X0_leaveBench rfl ⟨rfl, by decide, by decide, by decide +kernel⟩ ⟨Nat.le_of_ble_eq_true rfl, Nat.le_of_ble_eq_true rfl⟩ ⟨rfl, rfl⟩ hml hl.1 hK hP hD hS hA ⟨rfl, rfl, rfl, rfl, rfl, rfl, rfl⟩ rfl ⟨rfl, rfl⟩ rfl rfl (Nat.le_of_ble_eq_true rfl) ⟨Nat.zero_le _, Nat.zero_le _⟩ dX0_access_99 (fun H locs hP hD hS => ?_)
          refine lv_aload_n hx hb dX0_access_102 rfl (lv_at hl 2 rfl) ?_
          refine lv_iload_n hx hb dX0_access_103 rfl (lv_at hl 1 rfl) ?_
          obtain ⟨⟨sc1, pl1, ln1, bn1, n1, dt1, hi1, sw1, mi1, hc1, co1⟩, hu1⟩ : ∃ z : CBu, z = cb_throw (q % sc) (sc, pl, ln, shl bn k (n - 1), n - 1, dt, hi, sw + 1, mi, hc, co + 3) := ⟨_, rfl⟩
          have hT := c_throw l D cyI cyZ cyJ h a1 a2 a3 sc pl ln (shl bn k (n - 1)) (n - 1) dt hi (sw + 1) mi hc (co + 3) (q % sc) hs16 (cb_bd_leave (u := (sc, pl, ln, bn, n, dt, hi, sw + 1, mi, hc, co + 3)) k hbd)
          rw [← hu1] at hT
          refine CtV.callV (n := 1) (q0 := 0) (ci := 0) (wc := CBc cyI cyZ h a1 a2 a3 (sc, pl, ln, shl bn k (n - 1), n - 1, dt, hi, sw + 1, mi, hc, co + 3)) (wr := ([] : va_W)) (w1 := CBc cyI cyZ h a1 a2 a3 (sc1, pl1, ln1, bn1, n1, dt1, hi1, sw1, mi1, hc1, co1)) (ws' := CBc cyI cyZ h a1 a2 a3 (sc1, pl1, ln1, bn1, n1, dt1, hi1, sw1, mi1, hc1, co1)) (isC := [0, 1, 2, 3]) (isR := []) (ps := [0, 1, 2, 3]) (As := [.int (nI (q % sc))]) (rest := []) (hT) ⟨hx, hb, hown, hts⟩ gX0_access_X0_throwOut rfl ⟨rfl, by decide, by decide, by decide +kernel⟩ ⟨Nat.le_of_ble_eq_true rfl, Nat.le_of_ble_eq_true rfl⟩ ⟨rfl, rfl⟩ hml hl.1 hK hP hD hS hA ⟨rfl, rfl, rfl, rfl, rfl, rfl, rfl⟩ rfl ⟨rfl, rfl⟩ rfl rfl (Nat.le_of_ble_eq_true rfl) ⟨Nat.zero_le _, Nat.zero_le _⟩ dX0_access_104 (fun H locs hP hD hS => ?_)
          refine lv_aload_n hx hb dX0_access_107 rfl (lv_at hl 2 rfl) ?_
          refine va_get (D := D) (ci := 0) (v := .ref a1) (C := RX0) (T := TX0) (N := 11) hx hb hts hi_RX0 hown hK hP 0 rfl rfl 2 (by decide) hf_9 (fun _ h9 => h9) rfl dX0_access_108 ?_
          refine lv_iload_n hx hb dX0_access_111 rfl (lv_at hl 1 rfl) ?_
          refine lv_iload_n hx hb dX0_access_112 rfl (lv_at hl 3 rfl) ?_
          refine mq_st (k := (q % sc)) oI ln1 (some q) (ws' := CBc cyI cyZ h a1 a2 a3 (sc1, pl1, ru ln1 (q % sc) (some q), bn1, n1, dt1, hi1, sw1, mi1, hc1, co1)) hx hb hK hP hD hS 1 0 rfl rfl (by omega) (Nat.le_of_ble_eq_true rfl) dX0_access_113 rfl (fun H locs hP hD hS => ?_)
          refine lv_iload_n hx hb dX0_access_114 rfl (lv_at hl 4 rfl) ?_
          refine mq_bz (b := w) (tgt := 125) hx hb dX0_access_115 (by decide) (fun cw => ?_) (fun cw => ?_)
          · exact CtV.ret hQ hx hb hr hlk hK hP hD hS dX0_access_125 (congrArg (CBc cyI cyZ h a1 a2 a3) (by unfold cb_acc; rw [if_neg hnh]; show _ = (match fnd (fun k => decide (bn k = q)) n with | none => cb_put (q % sc) q w (cb_throw (q % sc) (cb_missed (sc, pl, ln, bn, n, dt, hi, sw, mi, hc, co))) | some k => cb_put (q % sc) q w (cb_throw (q % sc) (sc, pl, ln, shl bn k (n - 1), n - 1, dt, hi, sw + 1, mi, hc, co + 3))); rw [hse]; show _ = cb_put (q % sc) q w (cb_throw (q % sc) (sc, pl, ln, shl bn k (n - 1), n - 1, dt, hi, sw + 1, mi, hc, co + 3)); rw [← hu1]; simp only [cb_put, cw]; rfl))
          · refine lv_aload_n hx hb dX0_access_118 rfl (lv_at hl 2 rfl) ?_
            refine va_get (D := D) (ci := 0) (v := .ref a3) (C := RX0) (T := TX0) (N := 11) hx hb hts hi_RX0 hown hK hP 0 rfl rfl 5 (by decide) hf_18 (fun _ h9 => h9) rfl dX0_access_119 ?_
            refine lv_iload_n hx hb dX0_access_122 rfl (lv_at hl 3 rfl) ?_
            refine lv_iconst (v := nI 1) hx hb dX0_access_123 (by decide) ?_
            refine mq_zst (k := q) dt1 true (ws' := CBc cyI cyZ h a1 a2 a3 (sc1, pl1, ru ln1 (q % sc) (some q), bn1, n1, ru dt1 q true, hi1, sw1, mi1, hc1, co1)) hx hb hK hP hD hS 3 1 rfl rfl (by omega) (Nat.le_of_ble_eq_true rfl) dX0_access_124 rfl (fun H locs hP hD hS => ?_)
            exact CtV.ret hQ hx hb hr hlk hK hP hD hS dX0_access_125 (congrArg (CBc cyI cyZ h a1 a2 a3) (by unfold cb_acc; rw [if_neg hnh]; show _ = (match fnd (fun k => decide (bn k = q)) n with | none => cb_put (q % sc) q w (cb_throw (q % sc) (cb_missed (sc, pl, ln, bn, n, dt, hi, sw, mi, hc, co))) | some k => cb_put (q % sc) q w (cb_throw (q % sc) (sc, pl, ln, shl bn k (n - 1), n - 1, dt, hi, sw + 1, mi, hc, co + 3))); rw [hse]; show _ = cb_put (q % sc) q w (cb_throw (q % sc) (sc, pl, ln, shl bn k (n - 1), n - 1, dt, hi, sw + 1, mi, hc, co + 3)); rw [← hu1]; simp only [cb_put, cw]; rfl))
        · exact absurd c3 (nI_m1 (by omega))
    · exact absurd (show nI q = -1 by first | exact c1.symm | (by_cases hh : oI none = nI q; exact hh.symm; exact absurd hh c1)) (nI_m1 (by omega))
  · have hrr : r < 256 := hln _ r hls
    refine lv_iload_n hx hb dX0_access_12 rfl (lv_at hl 2 rfl) ?_
    refine mq_ne (x := r) (y := q) (tgt := 39) (by omega) (by omega) hx hb dX0_access_13 (by decide) (fun c1 => ?_) (fun c1 => ?_)
    · have hnh : ¬ cb_ln (sc, pl, ln, bn, n, dt, hi, sw, mi, hc, co) (q % cb_sc (sc, pl, ln, bn, n, dt, hi, sw, mi, hc, co)) = some q := by show ¬ ln (q % sc) = some q; rw [hls]; simpa using c1
      refine lv_aload_n hx hb dX0_access_39 rfl (lv_at hl 1 rfl) ?_
      refine lv_iload_n hx hb dX0_access_40 rfl (lv_at hl 2 rfl) ?_
      refine CtI.callV (n := 1) (q0 := 0) (ci := 0) (wc := CBc cyI cyZ h a1 a2 a3 (sc, pl, ln, bn, n, dt, hi, sw, mi, hc, co)) (wr := ([] : va_W)) (w1 := CBc cyI cyZ h a1 a2 a3 (sc, pl, ln, bn, n, dt, hi, sw, mi, hc, co)) (ws' := CBc cyI cyZ h a1 a2 a3 (sc, pl, ln, bn, n, dt, hi, sw, mi, hc, co)) (isC := [0, 1, 2, 3]) (isR := []) (ps := [0, 1, 2, 3]) (As := [.int (nI q)]) (rest := []) (c_seatOf l D cyI cyZ cyJ h a1 a2 a3 sc pl ln bn n dt hi sw mi hc co q hn8 hb8 hq) ⟨hx, hb, hown, hts⟩ gX0_access_X0_seatOf rfl ⟨rfl, by decide, by decide, by decide +kernel⟩ ⟨Nat.le_of_ble_eq_true rfl, Nat.le_of_ble_eq_true rfl⟩ ⟨rfl, rfl⟩ hml hl.1 hK hP hD hS hA ⟨rfl, rfl, rfl, rfl, rfl, rfl, rfl⟩ rfl ⟨rfl, rfl⟩ rfl rfl (Nat.le_of_ble_eq_true rfl) ⟨Nat.zero_le _, Nat.zero_le _⟩ dX0_access_41 (fun H locs hP hD hS => ?_)
      rcases hse : fnd (fun k => decide (bn k = q)) n with _ | k
      · refine lv_istore (lv' := [(4, .int (oI none)), (3, .int (nI (q % sc))), (0, .ref h), (1, .int (nI q)), (2, .int (bI w))]) hx hb dX0_access_44 hl (by decide) rfl (fun ls hl => ?_)
        refine lv_iload hx hb dX0_access_46 (lv_at hl 0 rfl) ?_
        refine lv_iconst (v := -1) hx hb dX0_access_48 (by decide) ?_
        refine lv_icmp_ne (x := oI none) (y := -1) (tgt := 76) hx hb dX0_access_49 (by decide) (fun c3 => ?_) (fun c3 => ?_)
        · exact absurd rfl c3
        · refine lv_aload_n hx hb dX0_access_52 rfl (lv_at hl 2 rfl) ?_
          refine lv_dup hx hb dX0_access_53 rfl ?_
          refine va_get (D := D) (ci := 0) (v := .int mi) (C := RX0) (T := TX0) (N := 11) hx hb hts hi_RX0 hown hK hP 0 rfl rfl 8 (by decide) hf_55 (fun _ h9 => h9) rfl dX0_access_54 ?_
          refine lv_iconst (v := nI 1) hx hb dX0_access_57 (by decide) ?_
          refine lv_iadd (x := mi) (y := 1) hx hb dX0_access_58 ?_
          refine mq_put (D := D) (ci := 0) (v := .int (mi + 1)) (ty := .int) (C := RX0) (T := TX0) (N := 11) (ws' := CBc cyI cyZ h a1 a2 a3 (sc, pl, ln, bn, n, dt, hi, sw, mi + 1, hc, co)) hx hb hts hi_RX0 tyX0 tyX0_ok nmX0 hown hK hP hD hS 0 rfl rfl 8 (by decide) hf_55 (fun _ h9 => h9) rfl (by decide +kernel) rfl rfl (Nat.le_of_ble_eq_true rfl) dX0_access_59 rfl (fun H locs hP hD hS => ?_)
          refine lv_aload_n hx hb dX0_access_62 rfl (lv_at hl 2 rfl) ?_
          refine lv_dup hx hb dX0_access_63 rfl ?_
          refine va_get (D := D) (ci := 0) (v := .int co) (C := RX0) (T := TX0) (N := 11) hx hb hts hi_RX0 hown hK hP 0 rfl rfl 10 (by decide) hf_49 (fun _ h9 => h9) rfl dX0_access_64 ?_
          refine lv_bipush (v := nI 20) hx hb dX0_access_67 (by decide) ?_
          refine lv_iadd (x := co) (y := 20) hx hb dX0_access_69 ?_
          refine mq_put (D := D) (ci := 0) (v := .int (co + 20)) (ty := .int) (C := RX0) (T := TX0) (N := 11) (ws' := CBc cyI cyZ h a1 a2 a3 (sc, pl, ln, bn, n, dt, hi, sw, mi + 1, hc, co + 20)) hx hb hts hi_RX0 tyX0 tyX0_ok nmX0 hown hK hP hD hS 0 rfl rfl 10 (by decide) hf_49 (fun _ h9 => h9) rfl (by decide +kernel) rfl rfl (Nat.le_of_ble_eq_true rfl) dX0_access_70 rfl (fun H locs hP hD hS => ?_)
          refine lv_goto (tgt := 102) hx hb dX0_access_73 (by decide) ?_
          refine lv_aload_n hx hb dX0_access_102 rfl (lv_at hl 2 rfl) ?_
          refine lv_iload_n hx hb dX0_access_103 rfl (lv_at hl 1 rfl) ?_
          obtain ⟨⟨sc1, pl1, ln1, bn1, n1, dt1, hi1, sw1, mi1, hc1, co1⟩, hu1⟩ : ∃ z : CBu, z = cb_throw (q % sc) (sc, pl, ln, bn, n, dt, hi, sw, mi + 1, hc, co + 20) := ⟨_, rfl⟩
          have hT := c_throw l D cyI cyZ cyJ h a1 a2 a3 sc pl ln bn n dt hi sw (mi + 1) hc (co + 20) (q % sc) hs16 hbd
          rw [← hu1] at hT
          refine CtV.callV (n := 1) (q0 := 0) (ci := 0) (wc := CBc cyI cyZ h a1 a2 a3 (sc, pl, ln, bn, n, dt, hi, sw, mi + 1, hc, co + 20)) (wr := ([] : va_W)) (w1 := CBc cyI cyZ h a1 a2 a3 (sc1, pl1, ln1, bn1, n1, dt1, hi1, sw1, mi1, hc1, co1)) (ws' := CBc cyI cyZ h a1 a2 a3 (sc1, pl1, ln1, bn1, n1, dt1, hi1, sw1, mi1, hc1, co1)) (isC := [0, 1, 2, 3]) (isR := []) (ps := [0, 1, 2, 3]) (As := [.int (nI (q % sc))]) (rest := []) (hT) ⟨hx, hb, hown, hts⟩ gX0_access_X0_throwOut rfl ⟨rfl, by decide, by decide, by decide +kernel⟩ ⟨Nat.le_of_ble_eq_true rfl, Nat.le_of_ble_eq_true rfl⟩ ⟨rfl, rfl⟩ hml hl.1 hK hP hD hS hA ⟨rfl, rfl, rfl, rfl, rfl, rfl, rfl⟩ rfl ⟨rfl, rfl⟩ rfl rfl (Nat.le_of_ble_eq_true rfl) ⟨Nat.zero_le _, Nat.zero_le _⟩ dX0_access_104 (fun H locs hP hD hS => ?_)
          refine lv_aload_n hx hb dX0_access_107 rfl (lv_at hl 2 rfl) ?_
          refine va_get (D := D) (ci := 0) (v := .ref a1) (C := RX0) (T := TX0) (N := 11) hx hb hts hi_RX0 hown hK hP 0 rfl rfl 2 (by decide) hf_9 (fun _ h9 => h9) rfl dX0_access_108 ?_
          refine lv_iload_n hx hb dX0_access_111 rfl (lv_at hl 1 rfl) ?_
          refine lv_iload_n hx hb dX0_access_112 rfl (lv_at hl 3 rfl) ?_
          refine mq_st (k := (q % sc)) oI ln1 (some q) (ws' := CBc cyI cyZ h a1 a2 a3 (sc1, pl1, ru ln1 (q % sc) (some q), bn1, n1, dt1, hi1, sw1, mi1, hc1, co1)) hx hb hK hP hD hS 1 0 rfl rfl (by omega) (Nat.le_of_ble_eq_true rfl) dX0_access_113 rfl (fun H locs hP hD hS => ?_)
          refine lv_iload_n hx hb dX0_access_114 rfl (lv_at hl 4 rfl) ?_
          refine mq_bz (b := w) (tgt := 125) hx hb dX0_access_115 (by decide) (fun cw => ?_) (fun cw => ?_)
          · exact CtV.ret hQ hx hb hr hlk hK hP hD hS dX0_access_125 (congrArg (CBc cyI cyZ h a1 a2 a3) (by unfold cb_acc; rw [if_neg hnh]; show _ = (match fnd (fun k => decide (bn k = q)) n with | none => cb_put (q % sc) q w (cb_throw (q % sc) (sc, pl, ln, bn, n, dt, hi, sw, mi + 1, hc, co + 20)) | some k => cb_put (q % sc) q w (cb_throw (q % sc) (cb_leave k (cb_swapped (sc, pl, ln, bn, n, dt, hi, sw, mi, hc, co))))); rw [hse, ← hu1]; simp only [cb_put, cw]; rfl))
          · refine lv_aload_n hx hb dX0_access_118 rfl (lv_at hl 2 rfl) ?_
            refine va_get (D := D) (ci := 0) (v := .ref a3) (C := RX0) (T := TX0) (N := 11) hx hb hts hi_RX0 hown hK hP 0 rfl rfl 5 (by decide) hf_18 (fun _ h9 => h9) rfl dX0_access_119 ?_
            refine lv_iload_n hx hb dX0_access_122 rfl (lv_at hl 3 rfl) ?_
            refine lv_iconst (v := nI 1) hx hb dX0_access_123 (by decide) ?_
            refine mq_zst (k := q) dt1 true (ws' := CBc cyI cyZ h a1 a2 a3 (sc1, pl1, ru ln1 (q % sc) (some q), bn1, n1, ru dt1 q true, hi1, sw1, mi1, hc1, co1)) hx hb hK hP hD hS 3 1 rfl rfl (by omega) (Nat.le_of_ble_eq_true rfl) dX0_access_124 rfl (fun H locs hP hD hS => ?_)
            exact CtV.ret hQ hx hb hr hlk hK hP hD hS dX0_access_125 (congrArg (CBc cyI cyZ h a1 a2 a3) (by unfold cb_acc; rw [if_neg hnh]; show _ = (match fnd (fun k => decide (bn k = q)) n with | none => cb_put (q % sc) q w (cb_throw (q % sc) (sc, pl, ln, bn, n, dt, hi, sw, mi + 1, hc, co + 20)) | some k => cb_put (q % sc) q w (cb_throw (q % sc) (cb_leave k (cb_swapped (sc, pl, ln, bn, n, dt, hi, sw, mi, hc, co))))); rw [hse, ← hu1]; simp only [cb_put, cw]; rfl))
      · obtain ⟨hkn, hkq, -⟩ := fnd_of_some hse
        refine lv_istore (lv' := [(4, .int (nI k)), (3, .int (nI (q % sc))), (0, .ref h), (1, .int (nI q)), (2, .int (bI w))]) hx hb dX0_access_44 hl (by decide) rfl (fun ls hl => ?_)
        refine lv_iload hx hb dX0_access_46 (lv_at hl 0 rfl) ?_
        refine lv_iconst (v := -1) hx hb dX0_access_48 (by decide) ?_
        refine lv_icmp_ne (x := nI k) (y := -1) (tgt := 76) hx hb dX0_access_49 (by decide) (fun c3 => ?_) (fun c3 => ?_)
        · refine lv_aload_n hx hb dX0_access_76 rfl (lv_at hl 2 rfl) ?_
          refine lv_dup hx hb dX0_access_77 rfl ?_
          refine va_get (D := D) (ci := 0) (v := .int sw) (C := RX0) (T := TX0) (N := 11) hx hb hts hi_RX0 hown hK hP 0 rfl rfl 7 (by decide) hf_58 (fun _ h9 => h9) rfl dX0_access_78 ?_
          refine lv_iconst (v := nI 1) hx hb dX0_access_81 (by decide) ?_
          refine lv_iadd (x := sw) (y := 1) hx hb dX0_access_82 ?_
          refine mq_put (D := D) (ci := 0) (v := .int (sw + 1)) (ty := .int) (C := RX0) (T := TX0) (N := 11) (ws' := CBc cyI cyZ h a1 a2 a3 (sc, pl, ln, bn, n, dt, hi, sw + 1, mi, hc, co)) hx hb hts hi_RX0 tyX0 tyX0_ok nmX0 hown hK hP hD hS 0 rfl rfl 7 (by decide) hf_58 (fun _ h9 => h9) rfl (by decide +kernel) rfl rfl (Nat.le_of_ble_eq_true rfl) dX0_access_83 rfl (fun H locs hP hD hS => ?_)
          refine lv_aload_n hx hb dX0_access_86 rfl (lv_at hl 2 rfl) ?_
          refine lv_dup hx hb dX0_access_87 rfl ?_
          refine va_get (D := D) (ci := 0) (v := .int co) (C := RX0) (T := TX0) (N := 11) hx hb hts hi_RX0 hown hK hP 0 rfl rfl 10 (by decide) hf_49 (fun _ h9 => h9) rfl dX0_access_88 ?_
          refine lv_iconst (v := nI 3) hx hb dX0_access_91 (by decide) ?_
          refine lv_iadd (x := co) (y := 3) hx hb dX0_access_92 ?_
          refine mq_put (D := D) (ci := 0) (v := .int (co + 3)) (ty := .int) (C := RX0) (T := TX0) (N := 11) (ws' := CBc cyI cyZ h a1 a2 a3 (sc, pl, ln, bn, n, dt, hi, sw + 1, mi, hc, co + 3)) hx hb hts hi_RX0 tyX0 tyX0_ok nmX0 hown hK hP hD hS 0 rfl rfl 10 (by decide) hf_49 (fun _ h9 => h9) rfl (by decide +kernel) rfl rfl (Nat.le_of_ble_eq_true rfl) dX0_access_93 rfl (fun H locs hP hD hS => ?_)
          refine lv_aload_n hx hb dX0_access_96 rfl (lv_at hl 2 rfl) ?_
          refine lv_iload hx hb dX0_access_97 (lv_at hl 0 rfl) ?_
          refine CtV.callV (n := 1) (q0 := 0) (ci := 0) (wc := CBc cyI cyZ h a1 a2 a3 (sc, pl, ln, bn, n, dt, hi, sw + 1, mi, hc, co + 3)) (wr := ([] : va_W)) (w1 := CBc cyI cyZ h a1 a2 a3 (sc, pl, ln, shl bn k (n - 1), n - 1, dt, hi, sw + 1, mi, hc, co + 3)) (ws' := CBc cyI cyZ h a1 a2 a3 (sc, pl, ln, shl bn k (n - 1), n - 1, dt, hi, sw + 1, mi, hc, co + 3)) (isC := [0, 1, 2, 3]) (isR := []) (ps := [0, 1, 2, 3]) (As := [.int (nI k)]) (rest := []) (c_leave l D cyI cyZ cyJ h a1 a2 a3 sc pl ln bn n dt hi (sw + 1) mi hc (co + 3) k hkn hn8) ⟨hx, hb, hown, hts⟩ gX0_access_X0_leaveBench rfl ⟨rfl, by decide, by decide, by decide +kernel⟩ ⟨Nat.le_of_ble_eq_true rfl, Nat.le_of_ble_eq_true rfl⟩ ⟨rfl, rfl⟩ hml hl.1 hK hP hD hS hA ⟨rfl, rfl, rfl, rfl, rfl, rfl, rfl⟩ rfl ⟨rfl, rfl⟩ rfl rfl (Nat.le_of_ble_eq_true rfl) ⟨Nat.zero_le _, Nat.zero_le _⟩ dX0_access_99 (fun H locs hP hD hS => ?_)
          refine lv_aload_n hx hb dX0_access_102 rfl (lv_at hl 2 rfl) ?_
          refine lv_iload_n hx hb dX0_access_103 rfl (lv_at hl 1 rfl) ?_
          obtain ⟨⟨sc1, pl1, ln1, bn1, n1, dt1, hi1, sw1, mi1, hc1, co1⟩, hu1⟩ : ∃ z : CBu, z = cb_throw (q % sc) (sc, pl, ln, shl bn k (n - 1), n - 1, dt, hi, sw + 1, mi, hc, co + 3) := ⟨_, rfl⟩
          have hT := c_throw l D cyI cyZ cyJ h a1 a2 a3 sc pl ln (shl bn k (n - 1)) (n - 1) dt hi (sw + 1) mi hc (co + 3) (q % sc) hs16 (cb_bd_leave (u := (sc, pl, ln, bn, n, dt, hi, sw + 1, mi, hc, co + 3)) k hbd)
          rw [← hu1] at hT
          refine CtV.callV (n := 1) (q0 := 0) (ci := 0) (wc := CBc cyI cyZ h a1 a2 a3 (sc, pl, ln, shl bn k (n - 1), n - 1, dt, hi, sw + 1, mi, hc, co + 3)) (wr := ([] : va_W)) (w1 := CBc cyI cyZ h a1 a2 a3 (sc1, pl1, ln1, bn1, n1, dt1, hi1, sw1, mi1, hc1, co1)) (ws' := CBc cyI cyZ h a1 a2 a3 (sc1, pl1, ln1, bn1, n1, dt1, hi1, sw1, mi1, hc1, co1)) (isC := [0, 1, 2, 3]) (isR := []) (ps := [0, 1, 2, 3]) (As := [.int (nI (q % sc))]) (rest := []) (hT) ⟨hx, hb, hown, hts⟩ gX0_access_X0_throwOut rfl ⟨rfl, by decide, by decide, by decide +kernel⟩ ⟨Nat.le_of_ble_eq_true rfl, Nat.le_of_ble_eq_true rfl⟩ ⟨rfl, rfl⟩ hml hl.1 hK hP hD hS hA ⟨rfl, rfl, rfl, rfl, rfl, rfl, rfl⟩ rfl ⟨rfl, rfl⟩ rfl rfl (Nat.le_of_ble_eq_true rfl) ⟨Nat.zero_le _, Nat.zero_le _⟩ dX0_access_104 (fun H locs hP hD hS => ?_)
          refine lv_aload_n hx hb dX0_access_107 rfl (lv_at hl 2 rfl) ?_
          refine va_get (D := D) (ci := 0) (v := .ref a1) (C := RX0) (T := TX0) (N := 11) hx hb hts hi_RX0 hown hK hP 0 rfl rfl 2 (by decide) hf_9 (fun _ h9 => h9) rfl dX0_access_108 ?_
          refine lv_iload_n hx hb dX0_access_111 rfl (lv_at hl 1 rfl) ?_
          refine lv_iload_n hx hb dX0_access_112 rfl (lv_at hl 3 rfl) ?_
          refine mq_st (k := (q % sc)) oI ln1 (some q) (ws' := CBc cyI cyZ h a1 a2 a3 (sc1, pl1, ru ln1 (q % sc) (some q), bn1, n1, dt1, hi1, sw1, mi1, hc1, co1)) hx hb hK hP hD hS 1 0 rfl rfl (by omega) (Nat.le_of_ble_eq_true rfl) dX0_access_113 rfl (fun H locs hP hD hS => ?_)
          refine lv_iload_n hx hb dX0_access_114 rfl (lv_at hl 4 rfl) ?_
          refine mq_bz (b := w) (tgt := 125) hx hb dX0_access_115 (by decide) (fun cw => ?_) (fun cw => ?_)
          · exact CtV.ret hQ hx hb hr hlk hK hP hD hS dX0_access_125 (congrArg (CBc cyI cyZ h a1 a2 a3) (by unfold cb_acc; rw [if_neg hnh]; show _ = (match fnd (fun k => decide (bn k = q)) n with | none => cb_put (q % sc) q w (cb_throw (q % sc) (cb_missed (sc, pl, ln, bn, n, dt, hi, sw, mi, hc, co))) | some k => cb_put (q % sc) q w (cb_throw (q % sc) (sc, pl, ln, shl bn k (n - 1), n - 1, dt, hi, sw + 1, mi, hc, co + 3))); rw [hse]; show _ = cb_put (q % sc) q w (cb_throw (q % sc) (sc, pl, ln, shl bn k (n - 1), n - 1, dt, hi, sw + 1, mi, hc, co + 3)); rw [← hu1]; simp only [cb_put, cw]; rfl))
          · refine lv_aload_n hx hb dX0_access_118 rfl (lv_at hl 2 rfl) ?_
            refine va_get (D := D) (ci := 0) (v := .ref a3) (C := RX0) (T := TX0) (N := 11) hx hb hts hi_RX0 hown hK hP 0 rfl rfl 5 (by decide) hf_18 (fun _ h9 => h9) rfl dX0_access_119 ?_
            refine lv_iload_n hx hb dX0_access_122 rfl (lv_at hl 3 rfl) ?_
            refine lv_iconst (v := nI 1) hx hb dX0_access_123 (by decide) ?_
            refine mq_zst (k := q) dt1 true (ws' := CBc cyI cyZ h a1 a2 a3 (sc1, pl1, ru ln1 (q % sc) (some q), bn1, n1, ru dt1 q true, hi1, sw1, mi1, hc1, co1)) hx hb hK hP hD hS 3 1 rfl rfl (by omega) (Nat.le_of_ble_eq_true rfl) dX0_access_124 rfl (fun H locs hP hD hS => ?_)
            exact CtV.ret hQ hx hb hr hlk hK hP hD hS dX0_access_125 (congrArg (CBc cyI cyZ h a1 a2 a3) (by unfold cb_acc; rw [if_neg hnh]; show _ = (match fnd (fun k => decide (bn k = q)) n with | none => cb_put (q % sc) q w (cb_throw (q % sc) (cb_missed (sc, pl, ln, bn, n, dt, hi, sw, mi, hc, co))) | some k => cb_put (q % sc) q w (cb_throw (q % sc) (sc, pl, ln, shl bn k (n - 1), n - 1, dt, hi, sw + 1, mi, hc, co + 3))); rw [hse]; show _ = cb_put (q % sc) q w (cb_throw (q % sc) (sc, pl, ln, shl bn k (n - 1), n - 1, dt, hi, sw + 1, mi, hc, co + 3)); rw [← hu1]; simp only [cb_put, cw]; rfl))
        · exact absurd c3 (nI_m1 (by omega))
    · subst c1
      have hyh : cb_ln (sc, pl, ln, bn, n, dt, hi, sw, mi, hc, co) (r % cb_sc (sc, pl, ln, bn, n, dt, hi, sw, mi, hc, co)) = some r := hls
      refine lv_aload_n hx hb dX0_access_16 rfl (lv_at hl 1 rfl) ?_
      refine lv_dup hx hb dX0_access_17 rfl ?_
      refine va_get (D := D) (ci := 0) (v := .int hi) (C := RX0) (T := TX0) (N := 11) hx hb hts hi_RX0 hown hK hP 0 rfl rfl 6 (by decide) hf_46 (fun _ h9 => h9) rfl dX0_access_18 ?_
      refine lv_iconst (v := nI 1) hx hb dX0_access_21 (by decide) ?_
      refine lv_iadd (x := hi) (y := 1) hx hb dX0_access_22 ?_
      refine mq_put (D := D) (ci := 0) (v := .int (hi + 1)) (ty := .int) (C := RX0) (T := TX0) (N := 11) (ws' := CBc cyI cyZ h a1 a2 a3 (sc, pl, ln, bn, n, dt, hi + 1, sw, mi, hc, co)) hx hb hts hi_RX0 tyX0 tyX0_ok nmX0 hown hK hP hD hS 0 rfl rfl 6 (by decide) hf_46 (fun _ h9 => h9) rfl (by decide +kernel) rfl rfl (Nat.le_of_ble_eq_true rfl) dX0_access_23 rfl (fun H locs hP hD hS => ?_)
      refine lv_aload_n hx hb dX0_access_26 rfl (lv_at hl 1 rfl) ?_
      refine lv_dup hx hb dX0_access_27 rfl ?_
      refine va_get (D := D) (ci := 0) (v := .int co) (C := RX0) (T := TX0) (N := 11) hx hb hts hi_RX0 hown hK hP 0 rfl rfl 10 (by decide) hf_49 (fun _ h9 => h9) rfl dX0_access_28 ?_
      refine lv_iconst (v := nI 1) hx hb dX0_access_31 (by decide) ?_
      refine lv_iadd (x := co) (y := 1) hx hb dX0_access_32 ?_
      refine mq_put (D := D) (ci := 0) (v := .int (co + 1)) (ty := .int) (C := RX0) (T := TX0) (N := 11) (ws' := CBc cyI cyZ h a1 a2 a3 (sc, pl, ln, bn, n, dt, hi + 1, sw, mi, hc, co + 1)) hx hb hts hi_RX0 tyX0 tyX0_ok nmX0 hown hK hP hD hS 0 rfl rfl 10 (by decide) hf_49 (fun _ h9 => h9) rfl (by decide +kernel) rfl rfl (Nat.le_of_ble_eq_true rfl) dX0_access_33 rfl (fun H locs hP hD hS => ?_)
      refine lv_goto (tgt := 114) hx hb dX0_access_36 (by decide) ?_
      refine lv_iload_n hx hb dX0_access_114 rfl (lv_at hl 3 rfl) ?_
      refine mq_bz (b := w) (tgt := 125) hx hb dX0_access_115 (by decide) (fun cw => ?_) (fun cw => ?_)
      · exact CtV.ret hQ hx hb hr hlk hK hP hD hS dX0_access_125 (congrArg (CBc cyI cyZ h a1 a2 a3) (by unfold cb_acc; rw [if_pos hyh]; simp only [cb_hit, cw]; rfl))
      · refine lv_aload_n hx hb dX0_access_118 rfl (lv_at hl 1 rfl) ?_
        refine va_get (D := D) (ci := 0) (v := .ref a3) (C := RX0) (T := TX0) (N := 11) hx hb hts hi_RX0 hown hK hP 0 rfl rfl 5 (by decide) hf_18 (fun _ h9 => h9) rfl dX0_access_119 ?_
        refine lv_iload_n hx hb dX0_access_122 rfl (lv_at hl 2 rfl) ?_
        refine lv_iconst (v := nI 1) hx hb dX0_access_123 (by decide) ?_
        refine mq_zst (k := r) dt true (ws' := CBc cyI cyZ h a1 a2 a3 (sc, pl, ln, bn, n, ru dt r true, hi + 1, sw, mi, hc, co + 1)) hx hb hK hP hD hS 3 1 rfl rfl (by omega) (Nat.le_of_ble_eq_true rfl) dX0_access_124 rfl (fun H locs hP hD hS => ?_)
        exact CtV.ret hQ hx hb hr hlk hK hP hD hS dX0_access_125 (congrArg (CBc cyI cyZ h a1 a2 a3) (by unfold cb_acc; rw [if_pos hyh]; simp only [cb_hit, cw]; rfl))
end
section
abbrev rmX0_startEmpty : Room := { frames := 1, cells := 0, slots := 0, locals := 23 }
set_option maxRecDepth 100000 in
set_option maxHeartbeats 4000000 in
theorem c_startEmpty (l : Launch) (D : va_G) (cyI cyZ cyJ : ClassId) (h a1 a2 a3 : Nat) (sc pl : Nat) (ln : Nat → Option Nat) (bn : Nat → Nat) (n : Nat) (dt : Nat → Bool) (hi sw mi hc co : Int32) (s' p' : Nat)  : CtV l yX0_startEmpty wsX0_startEmpty rmX0_startEmpty D (T3 cyI cyZ cyJ) [.ref h, .int (nI s'), .int (nI p')] (CBc cyI cyZ h a1 a2 a3 (sc, pl, ln, bn, n, dt, hi, sw, mi, hc, co)) (CBc cyI cyZ h a1 a2 a3 (cb_empty s' p' (sc, pl, ln, bn, n, dt, hi, sw, mi, hc, co))) := by
  refine CtV.of (cc := cX0_startEmpty) (maxL := 4) (ret := none) (lv0 := [(0, .ref h), (1, .int (nI s')), (2, .int (nI p'))]) (by decide) rfl (Nat.le_of_ble_eq_true rfl) rfl ?_
  intro p e s m below meth c A ls args Q hx hb hml hr hlk hts hown hK hP hA hD hS hl hQ
  have hown : s.vm.findClass RX0 = some m.cls := hown
  have hi_RX0 : ∀ w ∈ wsX00, w ∈ wsX0_startEmpty := by decide +kernel
  have hf_9 := hts (.fieldLink RX0 9 "OutcastBench$CacheAndBench" "lines" "[I") (by decide +kernel)
  have hf_18 := hts (.fieldLink RX0 18 "OutcastBench$CacheAndBench" "dirtyLines" "[Z") (by decide +kernel)
  have hf_26 := hts (.fieldLink RX0 26 "OutcastBench$CacheAndBench" "setCount" "I") (by decide +kernel)
  have hf_30 := hts (.fieldLink RX0 30 "OutcastBench$CacheAndBench" "placeCount" "I") (by decide +kernel)
  have hf_39 := hts (.fieldLink RX0 39 "OutcastBench$CacheAndBench" "seated" "I") (by decide +kernel)
  refine lv_aload_n hx hb dX0_startEmpty_0 rfl (lv_at hl 0 rfl) ?_
  refine lv_iload_n hx hb dX0_startEmpty_1 rfl (lv_at hl 1 rfl) ?_
  refine mq_put (D := D) (ci := 0) (v := .int (nI s')) (ty := .int) (C := RX0) (T := TX0) (N := 11) (ws' := CBc cyI cyZ h a1 a2 a3 (s', pl, ln, bn, n, dt, hi, sw, mi, hc, co)) hx hb hts hi_RX0 tyX0 tyX0_ok nmX0 hown hK hP hD hS 0 rfl rfl 0 (by decide) hf_26 (fun _ h9 => h9) rfl (by decide +kernel) rfl rfl (Nat.le_of_ble_eq_true rfl) dX0_startEmpty_2 rfl (fun H locs hP hD hS => ?_)
  refine lv_aload_n hx hb dX0_startEmpty_5 rfl (lv_at hl 0 rfl) ?_
  refine lv_iload_n hx hb dX0_startEmpty_6 rfl (lv_at hl 2 rfl) ?_
  refine mq_put (D := D) (ci := 0) (v := .int (nI p')) (ty := .int) (C := RX0) (T := TX0) (N := 11) (ws' := CBc cyI cyZ h a1 a2 a3 (s', p', ln, bn, n, dt, hi, sw, mi, hc, co)) hx hb hts hi_RX0 tyX0 tyX0_ok nmX0 hown hK hP hD hS 0 rfl rfl 1 (by decide) hf_30 (fun _ h9 => h9) rfl (by decide +kernel) rfl rfl (Nat.le_of_ble_eq_true rfl) dX0_startEmpty_7 rfl (fun H locs hP hD hS => ?_)
  refine lv_aload_n hx hb dX0_startEmpty_10 rfl (lv_at hl 0 rfl) ?_
  refine va_get (D := D) (ci := 0) (v := .ref a1) (C := RX0) (T := TX0) (N := 11) hx hb hts hi_RX0 hown hK hP 0 rfl rfl 2 (by decide) hf_9 (fun _ h9 => h9) rfl dX0_startEmpty_11 ?_
  refine lv_iconst (v := -1) hx hb dX0_startEmpty_14 (by decide) ?_
  refine CtV.callS (n := 2) (wc := [(a1, .inl (cyI, 16, .inl (fun j => oI (ln j))))]) (wr := [(h, .inr (0, [.int (nI s'), .int (nI p'), .ref a1, .ref a2, .int (nI n), .ref a3, .int hi, .int sw, .int mi, .int hc, .int co])), (a2, .inl (cyI, 8, .inl (fun j => nI (bn j)))), (a3, .inl (cyZ, 256, .inl (fun j => bI (dt j))))]) (w1 := [(a1, .inl (cyI, 16, .inl (fil (fun j => oI (ln j)) 0 16 (-1))))]) (ws' := [(h, .inr (0, [.int (nI s'), .int (nI p'), .ref a1, .ref a2, .int (nI n), .ref a3, .int hi, .int sw, .int mi, .int hc, .int co])), (a1, .inl (cyI, 16, .inl (fil (fun j => oI (ln j)) 0 16 (-1)))), (a2, .inl (cyI, 8, .inl (fun j => nI (bn j)))), (a3, .inl (cyZ, 256, .inl (fun j => bI (dt j))))]) (isC := [1]) (isR := [0, 2, 3]) (ps := [0, 3, 1, 2]) (As := [.ref a1, .int (-1)]) (rest := []) (c_J7_fill l D cyI cyZ cyJ a1 16 (fun j => oI (ln j)) (-1) (Nat.le_of_ble_eq_true rfl)) ⟨hx, hb, hown, hts⟩ gX0_startEmpty_J7_fill_53178 rfl ⟨by decide, by decide, by decide +kernel⟩ ⟨Nat.le_of_ble_eq_true rfl, Nat.le_of_ble_eq_true rfl⟩ ⟨rfl, rfl⟩ hml hl.1 hK hP hD hS hA ⟨rfl, rfl, rfl, rfl, rfl, rfl, rfl⟩ rfl rfl (Nat.le_of_ble_eq_true rfl) ⟨Nat.zero_le _, Nat.zero_le _⟩ dX0_startEmpty_15 (fun H locs hP hD hS => ?_)
  obtain ⟨hP, hD⟩ := mq_row (q0 := 1) (g := fun j => oI ((fun _ => none : Nat → Option Nat) j)) (ws' := CBc cyI cyZ h a1 a2 a3 (s', p', (fun _ => none), bn, n, dt, hi, sw, mi, hc, co)) hP hD rfl (fun k hk => fil_in (Nat.zero_le k) hk) rfl
  refine lv_aload_n hx hb dX0_startEmpty_18 rfl (lv_at hl 0 rfl) ?_
  refine lv_iconst (v := nI 0) hx hb dX0_startEmpty_19 (by decide) ?_
  refine mq_put (D := D) (ci := 0) (v := .int (nI 0)) (ty := .int) (C := RX0) (T := TX0) (N := 11) (ws' := CBc cyI cyZ h a1 a2 a3 (s', p', (fun _ => none), bn, 0, dt, hi, sw, mi, hc, co)) hx hb hts hi_RX0 tyX0 tyX0_ok nmX0 hown hK hP hD hS 0 rfl rfl 4 (by decide) hf_39 (fun _ h9 => h9) rfl (by decide +kernel) rfl rfl (Nat.le_of_ble_eq_true rfl) dX0_startEmpty_20 rfl (fun H locs hP hD hS => ?_)
  refine lv_iconst (v := nI 0) hx hb dX0_startEmpty_23 (by decide) ?_
  refine lv_istore_n (lv' := [(3, .int (nI 0)), (0, .ref h), (1, .int (nI s')), (2, .int (nI p'))]) hx hb dX0_startEmpty_24 rfl hl (by decide) rfl (fun ls hl => ?_)
  rw [show dt = (fil dt 0 0 false) from (fil_0 dt 0 false).symm] at hP hD
  have LP25 : ∀ (fu : Nat) (i : Nat) (H : Heap) (locs : List Loc) (ls : Array Slot), (i ≤ 256) → 256 - i < fu → va_P D vwCl (CBc cyI cyZ h a1 a2 a3 (s', p', (fun _ => none), bn, 0, fil dt 0 i false, hi, sw, mi, hc, co)) H → va_D A (CBc cyI cyZ h a1 a2 a3 (s', p', (fun _ => none), bn, 0, fil dt 0 i false, hi, sw, mi, hc, co)) → va_S A s.heap H locs → lv_has ls 4 [(0, .ref h), (1, .int (nI s')), (2, .int (nI p')), (3, .int (nI i))] → W p l e rmX0_startEmpty s m args below meth c H locs 0 0 Q (F0 m 25 ls []) := by
    intro fu
    induction fu with
    | zero =>
      intro i H locs ls h2 hfu
      exact absurd hfu (Nat.not_lt_zero _)
    | succ fu ih =>
      intro i H locs ls h2 hfu hP hD hS hl
      refine lv_iload_n hx hb dX0_startEmpty_25 rfl (lv_at hl 3 rfl) ?_
      refine lv_sipush (v := nI 256) hx hb dX0_startEmpty_26 (by decide) ?_
      refine mq_ge (x := i) (y := 256) (tgt := 45) (by omega) (by omega) hx hb dX0_startEmpty_29 (by decide) (fun c1 => ?_) (fun c1 => ?_)
      · have e : i = 256 := by omega
        subst e
        obtain ⟨hP, hD⟩ := mq_row (q0 := 3) (g := fun j => bI ((fun _ => false : Nat → Bool) j)) (ws' := CBc cyI cyZ h a1 a2 a3 (s', p', (fun _ => none), bn, 0, (fun _ => false), hi, sw, mi, hc, co)) hP hD rfl (fun k hk => congrArg bI (fil_in (Nat.zero_le k) hk)) rfl
        exact CtV.ret hQ hx hb hr hlk hK hP hD hS dX0_startEmpty_45 rfl
      · refine lv_aload_n hx hb dX0_startEmpty_32 rfl (lv_at hl 0 rfl) ?_
        refine va_get (D := D) (ci := 0) (v := .ref a3) (C := RX0) (T := TX0) (N := 11) hx hb hts hi_RX0 hown hK hP 0 rfl rfl 5 (by decide) hf_18 (fun _ h9 => h9) rfl dX0_startEmpty_33 ?_
        refine lv_iload_n hx hb dX0_startEmpty_36 rfl (lv_at hl 3 rfl) ?_
        refine lv_iconst (v := nI 0) hx hb dX0_startEmpty_37 (by decide) ?_
        refine mq_zst (k := i) (fil dt 0 i false) false (ws' := CBc cyI cyZ h a1 a2 a3 (s', p', (fun _ => none), bn, 0, ru (fil dt 0 i false) i false, hi, sw, mi, hc, co)) hx hb hK hP hD hS 3 1 rfl rfl (by omega) (Nat.le_of_ble_eq_true rfl) dX0_startEmpty_38 rfl (fun H locs hP hD hS => ?_)
        rw [show (ru (fil dt 0 i false) i false) = (fil dt 0 (i + 1) false) from fil_s (Nat.zero_le i)] at hP hD
        refine lv_iinc (v := nI (i + 1)) (lv' := [(3, .int (nI (i + 1))), (0, .ref h), (1, .int (nI s')), (2, .int (nI p'))]) hx hb dX0_startEmpty_39 hl (k := 3) rfl (inc1 _) (by decide) rfl (fun ls hl => ?_)
        refine lv_goto (tgt := 25) hx hb dX0_startEmpty_42 (by decide) ?_
        exact ih (i + 1) _ _ _ (by omega) (by omega) hP hD hS (lv_sub hl [1, 2, 3, 0] rfl)
  exact LP25 _ 0 _ _ _ (Nat.zero_le _) (Nat.lt_succ_self _) hP hD hS (lv_sub hl [1, 2, 3, 0] rfl)
abbrev rmX0_countLines : Room := { frames := 0, cells := 0, slots := 0, locals := 0 }
set_option maxRecDepth 100000 in
set_option maxHeartbeats 4000000 in
theorem c_countLines (l : Launch) (D : va_G) (cyI cyZ cyJ : ClassId) (h a1 a2 a3 : Nat) (sc pl : Nat) (ln : Nat → Option Nat) (bn : Nat → Nat) (n : Nat) (dt : Nat → Bool) (hi sw mi hc co : Int32) (hbd : cb_bd (sc, pl, ln, bn, n, dt, hi, sw, mi, hc, co)) : CtI l yX0_countLines wsX0_countLines rmX0_countLines D (T3 cyI cyZ cyJ) [.ref h] (CBc cyI cyZ h a1 a2 a3 (sc, pl, ln, bn, n, dt, hi, sw, mi, hc, co)) (nI (n + cnt (fun s => (ln s).isSome) sc)) (CBc cyI cyZ h a1 a2 a3 (sc, pl, ln, bn, n, dt, hi, sw, mi, hc, co)) := by
  refine CtI.of (cc := cX0_countLines) (maxL := 3) (ret := (some .int)) (lv0 := [(0, .ref h)]) (by decide) rfl (Nat.le_of_ble_eq_true rfl) rfl ?_
  intro p e s m below meth c A ls args Q hx hb hml hr hlk hts hown hK hP hA hD hS hl hQ
  have hown : s.vm.findClass RX0 = some m.cls := hown
  have hi_RX0 : ∀ w ∈ wsX00, w ∈ wsX0_countLines := by decide +kernel
  have hf_9 := hts (.fieldLink RX0 9 "OutcastBench$CacheAndBench" "lines" "[I") (by decide +kernel)
  have hf_26 := hts (.fieldLink RX0 26 "OutcastBench$CacheAndBench" "setCount" "I") (by decide +kernel)
  have hf_39 := hts (.fieldLink RX0 39 "OutcastBench$CacheAndBench" "seated" "I") (by decide +kernel)
  obtain ⟨hsc, hpl, hn8, hln, hb8⟩ := hbd
  refine lv_aload_n hx hb dX0_countLines_0 rfl (lv_at hl 0 rfl) ?_
  refine va_get (D := D) (ci := 0) (v := .int (nI n)) (C := RX0) (T := TX0) (N := 11) hx hb hts hi_RX0 hown hK hP 0 rfl rfl 4 (by decide) hf_39 (fun _ h9 => h9) rfl dX0_countLines_1 ?_
  refine lv_istore_n (lv' := [(1, .int (nI n)), (0, .ref h)]) hx hb dX0_countLines_4 rfl hl (by decide) rfl (fun ls hl => ?_)
  refine lv_iconst (v := nI 0) hx hb dX0_countLines_5 (by decide) ?_
  refine lv_istore_n (lv' := [(2, .int (nI 0)), (1, .int (nI n)), (0, .ref h)]) hx hb dX0_countLines_6 rfl hl (by decide) rfl (fun ls hl => ?_)
  have LP7 : ∀ (fu : Nat) (i : Nat) (k : Nat) (H : Heap) (locs : List Loc) (ls : Array Slot), (i ≤ sc) → (k = n + cnt (fun s => (ln s).isSome) i) → sc - i < fu → va_P D vwCl (CBc cyI cyZ h a1 a2 a3 (sc, pl, ln, bn, n, dt, hi, sw, mi, hc, co)) H → va_D A (CBc cyI cyZ h a1 a2 a3 (sc, pl, ln, bn, n, dt, hi, sw, mi, hc, co)) → va_S A s.heap H locs → lv_has ls 3 [(0, .ref h), (1, .int (nI k)), (2, .int (nI i))] → W p l e rmX0_countLines s m args below meth c H locs 0 0 Q (F0 m 7 ls []) := by
    intro fu
    induction fu with
    | zero =>
      intro i k H locs ls h2 hk0 hfu
      exact absurd hfu (Nat.not_lt_zero _)
    | succ fu ih =>
      intro i k H locs ls h2 hk0 hfu hP hD hS hl
      refine lv_iload_n hx hb dX0_countLines_7 rfl (lv_at hl 2 rfl) ?_
      refine lv_aload_n hx hb dX0_countLines_8 rfl (lv_at hl 0 rfl) ?_
      refine va_get (D := D) (ci := 0) (v := .int (nI sc)) (C := RX0) (T := TX0) (N := 11) hx hb hts hi_RX0 hown hK hP 0 rfl rfl 0 (by decide) hf_26 (fun _ h9 => h9) rfl dX0_countLines_9 ?_
      refine mq_ge (x := i) (y := sc) (tgt := 34) (by omega) (by omega) hx hb dX0_countLines_12 (by decide) (fun c1 => ?_) (fun c1 => ?_)
      · have e : i = sc := by omega
        subst e
        refine lv_iload_n hx hb dX0_countLines_34 rfl (lv_at hl 1 rfl) ?_
        exact CtI.ret hQ hx hb hr hlk hK hP hD hS dX0_countLines_35 (by rw [hk0]) rfl
      · refine lv_aload_n hx hb dX0_countLines_15 rfl (lv_at hl 0 rfl) ?_
        refine va_get (D := D) (ci := 0) (v := .ref a1) (C := RX0) (T := TX0) (N := 11) hx hb hts hi_RX0 hown hK hP 0 rfl rfl 2 (by decide) hf_9 (fun _ h9 => h9) rfl dX0_countLines_16 ?_
        refine lv_iload_n hx hb dX0_countLines_19 rfl (lv_at hl 2 rfl) ?_
        refine mq_ld (k := i) oI ln hx hb hK hP 1 0 rfl rfl (by omega) (Nat.le_of_ble_eq_true rfl) dX0_countLines_20 ?_
        rcases hls : ln i with _ | q
        · refine lv_iconst (v := -1) hx hb dX0_countLines_21 (by decide) ?_
          refine lv_icmp_eq (x := oI none) (y := -1) (tgt := 28) hx hb dX0_countLines_22 (by decide) (fun c2 => ?_) (fun c2 => ?_)
          · refine lv_iinc (v := nI (i + 1)) (lv' := [(2, .int (nI (i + 1))), (0, .ref h), (1, .int (nI k))]) hx hb dX0_countLines_28 hl (k := 2) rfl (inc1 _) (by decide) rfl (fun ls hl => ?_)
            refine lv_goto (tgt := 7) hx hb dX0_countLines_31 (by decide) ?_
            exact ih (i + 1) k _ _ _ (by omega) (by rw [cnt_n (by simp [hls])]; exact hk0) (by omega) hP hD hS (lv_sub hl [1, 2, 0] rfl)
          · exact absurd rfl c2
        · have hq : q < 256 := hln i q hls
          refine lv_iconst (v := -1) hx hb dX0_countLines_21 (by decide) ?_
          refine lv_icmp_eq (x := nI q) (y := -1) (tgt := 28) hx hb dX0_countLines_22 (by decide) (fun c2 => ?_) (fun c2 => ?_)
          · exact absurd c2 (nI_m1 (by omega))
          · refine lv_iinc (v := nI (k + 1)) (lv' := [(1, .int (nI (k + 1))), (0, .ref h), (2, .int (nI i))]) hx hb dX0_countLines_25 hl (k := 1) rfl (inc1 _) (by decide) rfl (fun ls hl => ?_)
            refine lv_iinc (v := nI (i + 1)) (lv' := [(2, .int (nI (i + 1))), (1, .int (nI (k + 1))), (0, .ref h)]) hx hb dX0_countLines_28 hl (k := 2) rfl (inc1 _) (by decide) rfl (fun ls hl => ?_)
            refine lv_goto (tgt := 7) hx hb dX0_countLines_31 (by decide) ?_
            exact ih (i + 1) (k + 1) _ _ _ (by omega) (by rw [cnt_s (by simp [hls]), hk0]; omega) (by omega) hP hD hS (lv_sub hl [2, 1, 0] rfl)
  exact LP7 _ 0 n _ _ _ (Nat.zero_le _) rfl (Nat.lt_succ_self _) hP hD hS (lv_sub hl [2, 1, 0] rfl)
abbrev rmX0_countDirty : Room := { frames := 0, cells := 0, slots := 0, locals := 0 }
set_option maxRecDepth 100000 in
set_option maxHeartbeats 4000000 in
theorem c_countDirty (l : Launch) (D : va_G) (cyI cyZ cyJ : ClassId) (h a1 a2 a3 : Nat) (sc pl : Nat) (ln : Nat → Option Nat) (bn : Nat → Nat) (n : Nat) (dt : Nat → Bool) (hi sw mi hc co : Int32)  : CtI l yX0_countDirty wsX0_countDirty rmX0_countDirty D (T3 cyI cyZ cyJ) [.ref h] (CBc cyI cyZ h a1 a2 a3 (sc, pl, ln, bn, n, dt, hi, sw, mi, hc, co)) (nI (cnt dt 256)) (CBc cyI cyZ h a1 a2 a3 (sc, pl, ln, bn, n, dt, hi, sw, mi, hc, co)) := by
  refine CtI.of (cc := cX0_countDirty) (maxL := 3) (ret := (some .int)) (lv0 := [(0, .ref h)]) (by decide) rfl (Nat.le_of_ble_eq_true rfl) rfl ?_
  intro p e s m below meth c A ls args Q hx hb hml hr hlk hts hown hK hP hA hD hS hl hQ
  have hown : s.vm.findClass RX0 = some m.cls := hown
  have hi_RX0 : ∀ w ∈ wsX00, w ∈ wsX0_countDirty := by decide +kernel
  have hf_18 := hts (.fieldLink RX0 18 "OutcastBench$CacheAndBench" "dirtyLines" "[Z") (by decide +kernel)
  refine lv_iconst (v := nI 0) hx hb dX0_countDirty_0 (by decide) ?_
  refine lv_istore_n (lv' := [(1, .int (nI 0)), (0, .ref h)]) hx hb dX0_countDirty_1 rfl hl (by decide) rfl (fun ls hl => ?_)
  refine lv_iconst (v := nI 0) hx hb dX0_countDirty_2 (by decide) ?_
  refine lv_istore_n (lv' := [(2, .int (nI 0)), (1, .int (nI 0)), (0, .ref h)]) hx hb dX0_countDirty_3 rfl hl (by decide) rfl (fun ls hl => ?_)
  have LP4 : ∀ (fu : Nat) (i : Nat) (k : Nat) (H : Heap) (locs : List Loc) (ls : Array Slot), (i ≤ 256) → (k = cnt dt i) → 256 - i < fu → va_P D vwCl (CBc cyI cyZ h a1 a2 a3 (sc, pl, ln, bn, n, dt, hi, sw, mi, hc, co)) H → va_D A (CBc cyI cyZ h a1 a2 a3 (sc, pl, ln, bn, n, dt, hi, sw, mi, hc, co)) → va_S A s.heap H locs → lv_has ls 3 [(0, .ref h), (1, .int (nI k)), (2, .int (nI i))] → W p l e rmX0_countDirty s m args below meth c H locs 0 0 Q (F0 m 4 ls []) := by
    intro fu
    induction fu with
    | zero =>
      intro i k H locs ls h2 hk0 hfu
      exact absurd hfu (Nat.not_lt_zero _)
    | succ fu ih =>
      intro i k H locs ls h2 hk0 hfu hP hD hS hl
      refine lv_iload_n hx hb dX0_countDirty_4 rfl (lv_at hl 2 rfl) ?_
      refine lv_sipush (v := nI 256) hx hb dX0_countDirty_5 (by decide) ?_
      refine mq_ge (x := i) (y := 256) (tgt := 29) (by omega) (by omega) hx hb dX0_countDirty_8 (by decide) (fun c1 => ?_) (fun c1 => ?_)
      · have e : i = 256 := by omega
        subst e
        refine lv_iload_n hx hb dX0_countDirty_29 rfl (lv_at hl 1 rfl) ?_
        exact CtI.ret hQ hx hb hr hlk hK hP hD hS dX0_countDirty_30 (by rw [hk0]) rfl
      · refine lv_aload_n hx hb dX0_countDirty_11 rfl (lv_at hl 0 rfl) ?_
        refine va_get (D := D) (ci := 0) (v := .ref a3) (C := RX0) (T := TX0) (N := 11) hx hb hts hi_RX0 hown hK hP 0 rfl rfl 5 (by decide) hf_18 (fun _ h9 => h9) rfl dX0_countDirty_12 ?_
        refine lv_iload_n hx hb dX0_countDirty_15 rfl (lv_at hl 2 rfl) ?_
        refine mq_zld (k := i) dt hx hb hK hP 3 1 rfl rfl (by omega) (Nat.le_of_ble_eq_true rfl) dX0_countDirty_16 ?_
        refine mq_bz (b := (dt i)) (tgt := 23) hx hb dX0_countDirty_17 (by decide) (fun c2 => ?_) (fun c2 => ?_)
        · refine lv_iinc (v := nI (i + 1)) (lv' := [(2, .int (nI (i + 1))), (0, .ref h), (1, .int (nI k))]) hx hb dX0_countDirty_23 hl (k := 2) rfl (inc1 _) (by decide) rfl (fun ls hl => ?_)
          refine lv_goto (tgt := 4) hx hb dX0_countDirty_26 (by decide) ?_
          exact ih (i + 1) k _ _ _ (by omega) (by rw [cnt_n c2]; exact hk0) (by omega) hP hD hS (lv_sub hl [1, 2, 0] rfl)
        · refine lv_iinc (v := nI (k + 1)) (lv' := [(1, .int (nI (k + 1))), (0, .ref h), (2, .int (nI i))]) hx hb dX0_countDirty_20 hl (k := 1) rfl (inc1 _) (by decide) rfl (fun ls hl => ?_)
          refine lv_iinc (v := nI (i + 1)) (lv' := [(2, .int (nI (i + 1))), (1, .int (nI (k + 1))), (0, .ref h)]) hx hb dX0_countDirty_23 hl (k := 2) rfl (inc1 _) (by decide) rfl (fun ls hl => ?_)
          refine lv_goto (tgt := 4) hx hb dX0_countDirty_26 (by decide) ?_
          exact ih (i + 1) (k + 1) _ _ _ (by omega) (by rw [cnt_s c2, hk0]) (by omega) hP hD hS (lv_sub hl [2, 1, 0] rfl)
  exact LP4 _ 0 0 _ _ _ (Nat.zero_le _) rfl (Nat.lt_succ_self _) hP hD hS (lv_sub hl [2, 1, 0] rfl)
abbrev rmX0_whereIs : Room := { frames := 1, cells := 0, slots := 0, locals := 22 }
set_option maxRecDepth 100000 in
set_option maxHeartbeats 4000000 in
theorem c_whereIs (l : Launch) (D : va_G) (cyI cyZ cyJ : ClassId) (h a1 a2 a3 : Nat) (sc pl : Nat) (ln : Nat → Option Nat) (bn : Nat → Nat) (n : Nat) (dt : Nat → Bool) (hi sw mi hc co : Int32) (q : Nat) (hbd : cb_bd (sc, pl, ln, bn, n, dt, hi, sw, mi, hc, co)) (hq : q < 256) : CtI l yX0_whereIs wsX0_whereIs rmX0_whereIs D (T3 cyI cyZ cyJ) [.ref h, .int (nI q)] (CBc cyI cyZ h a1 a2 a3 (sc, pl, ln, bn, n, dt, hi, sw, mi, hc, co)) (nI (cb_where q (sc, pl, ln, bn, n, dt, hi, sw, mi, hc, co))) (CBc cyI cyZ h a1 a2 a3 (sc, pl, ln, bn, n, dt, hi, sw, mi, hc, co)) := by
  refine CtI.of (cc := cX0_whereIs) (maxL := 2) (ret := (some .int)) (lv0 := [(0, .ref h), (1, .int (nI q))]) (by decide) rfl (Nat.le_of_ble_eq_true rfl) rfl ?_
  intro p e s m below meth c A ls args Q hx hb hml hr hlk hts hown hK hP hA hD hS hl hQ
  have hown : s.vm.findClass RX0 = some m.cls := hown
  have hi_RX0 : ∀ w ∈ wsX00, w ∈ wsX0_whereIs := by decide +kernel
  have hf_9 := hts (.fieldLink RX0 9 "OutcastBench$CacheAndBench" "lines" "[I") (by decide +kernel)
  have hbd0 := hbd
  obtain ⟨hsc, hpl, hn8, hln, hb8⟩ := hbd0
  have hs16 := mod16 q hsc
  refine lv_aload_n hx hb dX0_whereIs_0 rfl (lv_at hl 0 rfl) ?_
  refine va_get (D := D) (ci := 0) (v := .ref a1) (C := RX0) (T := TX0) (N := 11) hx hb hts hi_RX0 hown hK hP 0 rfl rfl 2 (by decide) hf_9 (fun _ h9 => h9) rfl dX0_whereIs_1 ?_
  refine lv_aload_n hx hb dX0_whereIs_4 rfl (lv_at hl 0 rfl) ?_
  refine lv_iload_n hx hb dX0_whereIs_5 rfl (lv_at hl 1 rfl) ?_
  refine CtI.callV (n := 1) (q0 := 0) (ci := 0) (wc := CBc cyI cyZ h a1 a2 a3 (sc, pl, ln, bn, n, dt, hi, sw, mi, hc, co)) (wr := ([] : va_W)) (w1 := CBc cyI cyZ h a1 a2 a3 (sc, pl, ln, bn, n, dt, hi, sw, mi, hc, co)) (ws' := CBc cyI cyZ h a1 a2 a3 (sc, pl, ln, bn, n, dt, hi, sw, mi, hc, co)) (isC := [0, 1, 2, 3]) (isR := []) (ps := [0, 1, 2, 3]) (As := [.int (nI q)]) (rest := [.ref a1]) (c_setOf l D cyI cyZ cyJ h a1 a2 a3 sc pl ln bn n dt hi sw mi hc co q hsc hq) ⟨hx, hb, hown, hts⟩ gX0_whereIs_X0_setOf rfl ⟨rfl, by decide, by decide, by decide +kernel⟩ ⟨Nat.le_of_ble_eq_true rfl, Nat.le_of_ble_eq_true rfl⟩ ⟨rfl, rfl⟩ hml hl.1 hK hP hD hS hA ⟨rfl, rfl, rfl, rfl, rfl, rfl, rfl⟩ rfl ⟨rfl, rfl⟩ rfl rfl (Nat.le_of_ble_eq_true rfl) ⟨Nat.zero_le _, Nat.zero_le _⟩ dX0_whereIs_6 (fun H locs hP hD hS => ?_)
  refine mq_ld (k := (q % sc)) oI ln hx hb hK hP 1 0 rfl rfl hs16 (Nat.le_of_ble_eq_true rfl) dX0_whereIs_9 ?_
  rcases hls : ln (q % sc) with _ | r
  · refine lv_iload_n hx hb dX0_whereIs_10 rfl (lv_at hl 1 rfl) ?_
    refine lv_icmp_ne (x := oI none) (y := nI q) (tgt := 16) hx hb dX0_whereIs_11 (by decide) (fun c1 => ?_) (fun c1 => ?_)
    · have hnh : ¬ ln (q % sc) = some q := by rw [hls]; simp
      refine lv_aload_n hx hb dX0_whereIs_16 rfl (lv_at hl 0 rfl) ?_
      refine lv_iload_n hx hb dX0_whereIs_17 rfl (lv_at hl 1 rfl) ?_
      refine CtI.callV (n := 1) (q0 := 0) (ci := 0) (wc := CBc cyI cyZ h a1 a2 a3 (sc, pl, ln, bn, n, dt, hi, sw, mi, hc, co)) (wr := ([] : va_W)) (w1 := CBc cyI cyZ h a1 a2 a3 (sc, pl, ln, bn, n, dt, hi, sw, mi, hc, co)) (ws' := CBc cyI cyZ h a1 a2 a3 (sc, pl, ln, bn, n, dt, hi, sw, mi, hc, co)) (isC := [0, 1, 2, 3]) (isR := []) (ps := [0, 1, 2, 3]) (As := [.int (nI q)]) (rest := []) (c_seatOf l D cyI cyZ cyJ h a1 a2 a3 sc pl ln bn n dt hi sw mi hc co q hn8 hb8 hq) ⟨hx, hb, hown, hts⟩ gX0_whereIs_X0_seatOf rfl ⟨rfl, by decide, by decide, by decide +kernel⟩ ⟨Nat.le_of_ble_eq_true rfl, Nat.le_of_ble_eq_true rfl⟩ ⟨rfl, rfl⟩ hml hl.1 hK hP hD hS hA ⟨rfl, rfl, rfl, rfl, rfl, rfl, rfl⟩ rfl ⟨rfl, rfl⟩ rfl rfl (Nat.le_of_ble_eq_true rfl) ⟨Nat.zero_le _, Nat.zero_le _⟩ dX0_whereIs_18 (fun H locs hP hD hS => ?_)
      rcases hse : fnd (fun k => decide (bn k = q)) n with _ | k
      · refine lv_iconst (v := -1) hx hb dX0_whereIs_21 (by decide) ?_
        refine lv_icmp_ne (x := oI none) (y := -1) (tgt := 29) hx hb dX0_whereIs_22 (by decide) (fun c3 => ?_) (fun c3 => ?_)
        · exact absurd rfl c3
        · refine lv_iconst (v := nI 0) hx hb dX0_whereIs_25 (by decide) ?_
          refine lv_goto (tgt := 30) hx hb dX0_whereIs_26 (by decide) ?_
          exact CtI.ret hQ hx hb hr hlk hK hP hD hS dX0_whereIs_30 (by unfold cb_where; dsimp only; rw [if_neg hnh, hse]; rfl) rfl
      · obtain ⟨hkn, hkq, -⟩ := fnd_of_some hse
        refine lv_iconst (v := -1) hx hb dX0_whereIs_21 (by decide) ?_
        refine lv_icmp_ne (x := nI k) (y := -1) (tgt := 29) hx hb dX0_whereIs_22 (by decide) (fun c3 => ?_) (fun c3 => ?_)
        · refine lv_iconst (v := nI 2) hx hb dX0_whereIs_29 (by decide) ?_
          exact CtI.ret hQ hx hb hr hlk hK hP hD hS dX0_whereIs_30 (by unfold cb_where; dsimp only; rw [if_neg hnh, hse]; rfl) rfl
        · exact absurd c3 (nI_m1 (by omega))
    · exact absurd (show nI q = -1 by first | exact c1.symm | (by_cases hh : oI none = nI q; exact hh.symm; exact absurd hh c1)) (nI_m1 (by omega))
  · have hrr : r < 256 := hln _ r hls
    refine lv_iload_n hx hb dX0_whereIs_10 rfl (lv_at hl 1 rfl) ?_
    refine mq_ne (x := r) (y := q) (tgt := 16) (by omega) (by omega) hx hb dX0_whereIs_11 (by decide) (fun c1 => ?_) (fun c1 => ?_)
    · have hnh : ¬ ln (q % sc) = some q := by rw [hls]; simpa using c1
      refine lv_aload_n hx hb dX0_whereIs_16 rfl (lv_at hl 0 rfl) ?_
      refine lv_iload_n hx hb dX0_whereIs_17 rfl (lv_at hl 1 rfl) ?_
      refine CtI.callV (n := 1) (q0 := 0) (ci := 0) (wc := CBc cyI cyZ h a1 a2 a3 (sc, pl, ln, bn, n, dt, hi, sw, mi, hc, co)) (wr := ([] : va_W)) (w1 := CBc cyI cyZ h a1 a2 a3 (sc, pl, ln, bn, n, dt, hi, sw, mi, hc, co)) (ws' := CBc cyI cyZ h a1 a2 a3 (sc, pl, ln, bn, n, dt, hi, sw, mi, hc, co)) (isC := [0, 1, 2, 3]) (isR := []) (ps := [0, 1, 2, 3]) (As := [.int (nI q)]) (rest := []) (c_seatOf l D cyI cyZ cyJ h a1 a2 a3 sc pl ln bn n dt hi sw mi hc co q hn8 hb8 hq) ⟨hx, hb, hown, hts⟩ gX0_whereIs_X0_seatOf rfl ⟨rfl, by decide, by decide, by decide +kernel⟩ ⟨Nat.le_of_ble_eq_true rfl, Nat.le_of_ble_eq_true rfl⟩ ⟨rfl, rfl⟩ hml hl.1 hK hP hD hS hA ⟨rfl, rfl, rfl, rfl, rfl, rfl, rfl⟩ rfl ⟨rfl, rfl⟩ rfl rfl (Nat.le_of_ble_eq_true rfl) ⟨Nat.zero_le _, Nat.zero_le _⟩ dX0_whereIs_18 (fun H locs hP hD hS => ?_)
      rcases hse : fnd (fun k => decide (bn k = q)) n with _ | k
      · refine lv_iconst (v := -1) hx hb dX0_whereIs_21 (by decide) ?_
        refine lv_icmp_ne (x := oI none) (y := -1) (tgt := 29) hx hb dX0_whereIs_22 (by decide) (fun c3 => ?_) (fun c3 => ?_)
        · exact absurd rfl c3
        · refine lv_iconst (v := nI 0) hx hb dX0_whereIs_25 (by decide) ?_
          refine lv_goto (tgt := 30) hx hb dX0_whereIs_26 (by decide) ?_
          exact CtI.ret hQ hx hb hr hlk hK hP hD hS dX0_whereIs_30 (by unfold cb_where; dsimp only; rw [if_neg hnh, hse]; rfl) rfl
      · obtain ⟨hkn, hkq, -⟩ := fnd_of_some hse
        refine lv_iconst (v := -1) hx hb dX0_whereIs_21 (by decide) ?_
        refine lv_icmp_ne (x := nI k) (y := -1) (tgt := 29) hx hb dX0_whereIs_22 (by decide) (fun c3 => ?_) (fun c3 => ?_)
        · refine lv_iconst (v := nI 2) hx hb dX0_whereIs_29 (by decide) ?_
          exact CtI.ret hQ hx hb hr hlk hK hP hD hS dX0_whereIs_30 (by unfold cb_where; dsimp only; rw [if_neg hnh, hse]; rfl) rfl
        · exact absurd c3 (nI_m1 (by omega))
    · subst c1
      refine lv_iconst (v := nI 1) hx hb dX0_whereIs_14 (by decide) ?_
      exact CtI.ret hQ hx hb hr hlk hK hP hD hS dX0_whereIs_15 (by unfold cb_where; dsimp only; rw [if_pos hls]) rfl
abbrev rmX0_bringAllHome : Room := { frames := 1, cells := 0, slots := 0, locals := 21 }
set_option maxRecDepth 100000 in
set_option maxHeartbeats 4000000 in
theorem c_bring (l : Launch) (D : va_G) (cyI cyZ cyJ : ClassId) (h a1 a2 a3 : Nat) (sc pl : Nat) (ln : Nat → Option Nat) (bn : Nat → Nat) (n : Nat) (dt : Nat → Bool) (hi sw mi hc co : Int32) (hbd : cb_bd (sc, pl, ln, bn, n, dt, hi, sw, mi, hc, co)) : CtI l yX0_bringAllHome wsX0_bringAllHome rmX0_bringAllHome D (T3 cyI cyZ cyJ) [.ref h] (CBc cyI cyZ h a1 a2 a3 (sc, pl, ln, bn, n, dt, hi, sw, mi, hc, co)) (cb_hc (cb_bring (sc, pl, ln, bn, n, dt, hi, sw, mi, hc, co)) - hc) (CBc cyI cyZ h a1 a2 a3 (cb_bring (sc, pl, ln, bn, n, dt, hi, sw, mi, hc, co))) := by
  refine CtI.of (cc := cX0_bringAllHome) (maxL := 3) (ret := (some .int)) (lv0 := [(0, .ref h)]) (by decide) rfl (Nat.le_of_ble_eq_true rfl) rfl ?_
  intro p e s m below meth c A ls args Q hx hb hml hr hlk hts hown hK hP hA hD hS hl hQ
  have hown : s.vm.findClass RX0 = some m.cls := hown
  have hi_RX0 : ∀ w ∈ wsX00, w ∈ wsX0_bringAllHome := by decide +kernel
  have hf_9 := hts (.fieldLink RX0 9 "OutcastBench$CacheAndBench" "lines" "[I") (by decide +kernel)
  have hf_15 := hts (.fieldLink RX0 15 "OutcastBench$CacheAndBench" "bench" "[I") (by decide +kernel)
  have hf_26 := hts (.fieldLink RX0 26 "OutcastBench$CacheAndBench" "setCount" "I") (by decide +kernel)
  have hf_39 := hts (.fieldLink RX0 39 "OutcastBench$CacheAndBench" "seated" "I") (by decide +kernel)
  have hf_71 := hts (.fieldLink RX0 71 "OutcastBench$CacheAndBench" "homecomingCount" "I") (by decide +kernel)
  obtain ⟨hsc, hpl, hn8, hln, hb8⟩ := hbd
  refine lv_aload_n hx hb dX0_bringAllHome_0 rfl (lv_at hl 0 rfl) ?_
  refine va_get (D := D) (ci := 0) (v := .int hc) (C := RX0) (T := TX0) (N := 11) hx hb hts hi_RX0 hown hK hP 0 rfl rfl 9 (by decide) hf_71 (fun _ h9 => h9) rfl dX0_bringAllHome_1 ?_
  refine lv_istore_n (lv' := [(1, .int hc), (0, .ref h)]) hx hb dX0_bringAllHome_4 rfl hl (by decide) rfl (fun ls hl => ?_)
  refine lv_iconst (v := nI 0) hx hb dX0_bringAllHome_5 (by decide) ?_
  refine lv_istore_n (lv' := [(2, .int (nI 0)), (1, .int hc), (0, .ref h)]) hx hb dX0_bringAllHome_6 rfl hl (by decide) rfl (fun ls hl => ?_)
  have LP7 : ∀ (fu : Nat) (i : Nat) (dti : Nat → Bool) (hci : Int32) (coi : Int32) (H : Heap) (locs : List Loc) (ls : Array Slot), (i ≤ sc) → (cb_bhS i (sc, pl, ln, bn, n, dt, hi, sw, mi, hc, co) = (sc, pl, ln, bn, n, dti, hi, sw, mi, hci, coi)) → sc - i < fu → va_P D vwCl (CBc cyI cyZ h a1 a2 a3 (sc, pl, ln, bn, n, dti, hi, sw, mi, hci, coi)) H → va_D A (CBc cyI cyZ h a1 a2 a3 (sc, pl, ln, bn, n, dti, hi, sw, mi, hci, coi)) → va_S A s.heap H locs → lv_has ls 3 [(0, .ref h), (1, .int hc), (2, .int (nI i))] → W p l e rmX0_bringAllHome s m args below meth c H locs 0 0 Q (F0 m 7 ls []) := by
    intro fu
    induction fu with
    | zero =>
      intro i dti hci coi H locs ls h2 hei hfu
      exact absurd hfu (Nat.not_lt_zero _)
    | succ fu ih =>
      intro i dti hci coi H locs ls h2 hei hfu hP hD hS hl
      refine lv_iload_n hx hb dX0_bringAllHome_7 rfl (lv_at hl 2 rfl) ?_
      refine lv_aload_n hx hb dX0_bringAllHome_8 rfl (lv_at hl 0 rfl) ?_
      refine va_get (D := D) (ci := 0) (v := .int (nI sc)) (C := RX0) (T := TX0) (N := 11) hx hb hts hi_RX0 hown hK hP 0 rfl rfl 0 (by decide) hf_26 (fun _ h9 => h9) rfl dX0_bringAllHome_9 ?_
      refine mq_ge (x := i) (y := sc) (tgt := 41) (by omega) (by omega) hx hb dX0_bringAllHome_12 (by decide) (fun c1 => ?_) (fun c1 => ?_)
      · have e : i = sc := by omega
        subst e
        refine lv_iconst (v := nI 0) hx hb dX0_bringAllHome_41 (by decide) ?_
        refine lv_istore_n (lv' := [(2, .int (nI 0)), (0, .ref h), (1, .int hc)]) hx hb dX0_bringAllHome_42 rfl hl (by decide) rfl (fun ls hl => ?_)
        have LP43 : ∀ (fu : Nat) (j : Nat) (dtj : Nat → Bool) (hcj : Int32) (coj : Int32) (H : Heap) (locs : List Loc) (ls : Array Slot), (j ≤ n) → (cb_bhB bn j (i, pl, ln, bn, n, dti, hi, sw, mi, hci, coi) = (i, pl, ln, bn, n, dtj, hi, sw, mi, hcj, coj)) → n - j < fu → va_P D vwCl (CBc cyI cyZ h a1 a2 a3 (i, pl, ln, bn, n, dtj, hi, sw, mi, hcj, coj)) H → va_D A (CBc cyI cyZ h a1 a2 a3 (i, pl, ln, bn, n, dtj, hi, sw, mi, hcj, coj)) → va_S A s.heap H locs → lv_has ls 3 [(0, .ref h), (1, .int hc), (2, .int (nI j))] → W p l e rmX0_bringAllHome s m args below meth c H locs 0 0 Q (F0 m 43 ls []) := by
          intro fu
          induction fu with
          | zero =>
            intro j dtj hcj coj H locs ls h3 hej hfu
            exact absurd hfu (Nat.not_lt_zero _)
          | succ fu ih =>
            intro j dtj hcj coj H locs ls h3 hej hfu hP hD hS hl
            refine lv_iload_n hx hb dX0_bringAllHome_43 rfl (lv_at hl 2 rfl) ?_
            refine lv_aload_n hx hb dX0_bringAllHome_44 rfl (lv_at hl 0 rfl) ?_
            refine va_get (D := D) (ci := 0) (v := .int (nI n)) (C := RX0) (T := TX0) (N := 11) hx hb hts hi_RX0 hown hK hP 0 rfl rfl 4 (by decide) hf_39 (fun _ h9 => h9) rfl dX0_bringAllHome_45 ?_
            refine mq_ge (x := j) (y := n) (tgt := 67) (by omega) (by omega) hx hb dX0_bringAllHome_48 (by decide) (fun c3 => ?_) (fun c3 => ?_)
            · have e : j = n := by omega
              subst e
              refine lv_aload_n hx hb dX0_bringAllHome_67 rfl (lv_at hl 0 rfl) ?_
              refine va_get (D := D) (ci := 0) (v := .int hcj) (C := RX0) (T := TX0) (N := 11) hx hb hts hi_RX0 hown hK hP 0 rfl rfl 9 (by decide) hf_71 (fun _ h9 => h9) rfl dX0_bringAllHome_68 ?_
              refine lv_iload_n hx hb dX0_bringAllHome_71 rfl (lv_at hl 1 rfl) ?_
              refine lv_isub (x := hcj) (y := hc) hx hb dX0_bringAllHome_72 ?_
              exact CtI.ret hQ hx hb hr hlk hK hP hD hS dX0_bringAllHome_73 (by rw [(show cb_bring (i, pl, ln, bn, j, dt, hi, sw, mi, hc, co) = (i, pl, ln, bn, j, dtj, hi, sw, mi, hcj, coj) from by unfold cb_bring; dsimp only; rw [hei, hej])]; rfl) (by rw [(show cb_bring (i, pl, ln, bn, j, dt, hi, sw, mi, hc, co) = (i, pl, ln, bn, j, dtj, hi, sw, mi, hcj, coj) from by unfold cb_bring; dsimp only; rw [hei, hej])])
            · refine lv_aload_n hx hb dX0_bringAllHome_51 rfl (lv_at hl 0 rfl) ?_
              refine lv_aload_n hx hb dX0_bringAllHome_52 rfl (lv_at hl 0 rfl) ?_
              refine va_get (D := D) (ci := 0) (v := .ref a2) (C := RX0) (T := TX0) (N := 11) hx hb hts hi_RX0 hown hK hP 0 rfl rfl 3 (by decide) hf_15 (fun _ h9 => h9) rfl dX0_bringAllHome_53 ?_
              refine lv_iload_n hx hb dX0_bringAllHome_56 rfl (lv_at hl 2 rfl) ?_
              refine mq_ld (k := j) nI bn hx hb hK hP 2 0 rfl rfl (by omega) (Nat.le_of_ble_eq_true rfl) dX0_bringAllHome_57 ?_
              refine CtV.callV (n := 1) (q0 := 0) (ci := 0) (wc := CBc cyI cyZ h a1 a2 a3 (i, pl, ln, bn, n, dtj, hi, sw, mi, hcj, coj)) (wr := ([] : va_W)) (w1 := CBc cyI cyZ h a1 a2 a3 (i, pl, ln, bn, n, ru dtj (bn j) false, hi, sw, mi, hcj + cI (dtj (bn j)) 1, coj + cI (dtj (bn j)) 10)) (ws' := CBc cyI cyZ h a1 a2 a3 (i, pl, ln, bn, n, ru dtj (bn j) false, hi, sw, mi, hcj + cI (dtj (bn j)) 1, coj + cI (dtj (bn j)) 10)) (isC := [0, 1, 2, 3]) (isR := []) (ps := [0, 1, 2, 3]) (As := [.int (nI (bn j))]) (rest := []) (c_bh l D cyI cyZ cyJ h a1 a2 a3 i pl ln bn n dtj hi sw mi hcj coj (bn j) (hb8 j (by omega))) ⟨hx, hb, hown, hts⟩ gX0_bringAllHome_X0_bringHomeIfDirty rfl ⟨rfl, by decide, by decide, by decide +kernel⟩ ⟨Nat.le_of_ble_eq_true rfl, Nat.le_of_ble_eq_true rfl⟩ ⟨rfl, rfl⟩ hml hl.1 hK hP hD hS hA ⟨rfl, rfl, rfl, rfl, rfl, rfl, rfl⟩ rfl ⟨rfl, rfl⟩ rfl rfl (Nat.le_of_ble_eq_true rfl) ⟨Nat.zero_le _, Nat.zero_le _⟩ dX0_bringAllHome_58 (fun H locs hP hD hS => ?_)
              refine lv_iinc (v := nI (j + 1)) (lv' := [(2, .int (nI (j + 1))), (0, .ref h), (1, .int hc)]) hx hb dX0_bringAllHome_61 hl (k := 2) rfl (inc1 _) (by decide) rfl (fun ls hl => ?_)
              refine lv_goto (tgt := 43) hx hb dX0_bringAllHome_64 (by decide) ?_
              exact ih (j + 1) (ru dtj (bn j) false) (hcj + cI (dtj (bn j)) 1) (coj + cI (dtj (bn j)) 10) _ _ _ (by omega) (by unfold cb_bhB; rw [hej]; rfl) (by omega) hP hD hS (lv_sub hl [1, 2, 0] rfl)
        exact LP43 _ 0 dti hci coi _ _ _ (Nat.zero_le _) rfl (Nat.lt_succ_self _) hP hD hS (lv_sub hl [1, 2, 0] rfl)
      · refine lv_aload_n hx hb dX0_bringAllHome_15 rfl (lv_at hl 0 rfl) ?_
        refine va_get (D := D) (ci := 0) (v := .ref a1) (C := RX0) (T := TX0) (N := 11) hx hb hts hi_RX0 hown hK hP 0 rfl rfl 2 (by decide) hf_9 (fun _ h9 => h9) rfl dX0_bringAllHome_16 ?_
        refine lv_iload_n hx hb dX0_bringAllHome_19 rfl (lv_at hl 2 rfl) ?_
        refine mq_ld (k := i) oI ln hx hb hK hP 1 0 rfl rfl (by omega) (Nat.le_of_ble_eq_true rfl) dX0_bringAllHome_20 ?_
        rcases hls : ln i with _ | q
        · refine lv_iconst (v := -1) hx hb dX0_bringAllHome_21 (by decide) ?_
          refine lv_icmp_eq (x := oI none) (y := -1) (tgt := 35) hx hb dX0_bringAllHome_22 (by decide) (fun c2 => ?_) (fun c2 => ?_)
          · refine lv_iinc (v := nI (i + 1)) (lv' := [(2, .int (nI (i + 1))), (0, .ref h), (1, .int hc)]) hx hb dX0_bringAllHome_35 hl (k := 2) rfl (inc1 _) (by decide) rfl (fun ls hl => ?_)
            refine lv_goto (tgt := 7) hx hb dX0_bringAllHome_38 (by decide) ?_
            exact ih (i + 1) dti hci coi _ _ _ (by omega) (by unfold cb_bhS; show (match ln i with | none => _ | some q => _) = _; rw [hls]; exact hei) (by omega) hP hD hS (lv_sub hl [1, 2, 0] rfl)
          · exact absurd rfl c2
        · have hq : q < 256 := hln i q hls
          refine lv_iconst (v := -1) hx hb dX0_bringAllHome_21 (by decide) ?_
          refine lv_icmp_eq (x := nI q) (y := -1) (tgt := 35) hx hb dX0_bringAllHome_22 (by decide) (fun c2 => ?_) (fun c2 => ?_)
          · exact absurd c2 (nI_m1 (by omega))
          · refine lv_aload_n hx hb dX0_bringAllHome_25 rfl (lv_at hl 0 rfl) ?_
            refine lv_aload_n hx hb dX0_bringAllHome_26 rfl (lv_at hl 0 rfl) ?_
            refine va_get (D := D) (ci := 0) (v := .ref a1) (C := RX0) (T := TX0) (N := 11) hx hb hts hi_RX0 hown hK hP 0 rfl rfl 2 (by decide) hf_9 (fun _ h9 => h9) rfl dX0_bringAllHome_27 ?_
            refine lv_iload_n hx hb dX0_bringAllHome_30 rfl (lv_at hl 2 rfl) ?_
            refine mq_ld (k := i) oI ln hx hb hK hP 1 0 rfl rfl (by omega) (Nat.le_of_ble_eq_true rfl) dX0_bringAllHome_31 ?_
            rw [show oI (ln i) = nI q from (by rw [hls]; rfl)]
            refine CtV.callV (n := 1) (q0 := 0) (ci := 0) (wc := CBc cyI cyZ h a1 a2 a3 (sc, pl, ln, bn, n, dti, hi, sw, mi, hci, coi)) (wr := ([] : va_W)) (w1 := CBc cyI cyZ h a1 a2 a3 (sc, pl, ln, bn, n, ru dti q false, hi, sw, mi, hci + cI (dti q) 1, coi + cI (dti q) 10)) (ws' := CBc cyI cyZ h a1 a2 a3 (sc, pl, ln, bn, n, ru dti q false, hi, sw, mi, hci + cI (dti q) 1, coi + cI (dti q) 10)) (isC := [0, 1, 2, 3]) (isR := []) (ps := [0, 1, 2, 3]) (As := [.int (nI q)]) (rest := []) (c_bh l D cyI cyZ cyJ h a1 a2 a3 sc pl ln bn n dti hi sw mi hci coi q hq) ⟨hx, hb, hown, hts⟩ gX0_bringAllHome_X0_bringHomeIfDirty rfl ⟨rfl, by decide, by decide, by decide +kernel⟩ ⟨Nat.le_of_ble_eq_true rfl, Nat.le_of_ble_eq_true rfl⟩ ⟨rfl, rfl⟩ hml hl.1 hK hP hD hS hA ⟨rfl, rfl, rfl, rfl, rfl, rfl, rfl⟩ rfl ⟨rfl, rfl⟩ rfl rfl (Nat.le_of_ble_eq_true rfl) ⟨Nat.zero_le _, Nat.zero_le _⟩ dX0_bringAllHome_32 (fun H locs hP hD hS => ?_)
            refine lv_iinc (v := nI (i + 1)) (lv' := [(2, .int (nI (i + 1))), (0, .ref h), (1, .int hc)]) hx hb dX0_bringAllHome_35 hl (k := 2) rfl (inc1 _) (by decide) rfl (fun ls hl => ?_)
            refine lv_goto (tgt := 7) hx hb dX0_bringAllHome_38 (by decide) ?_
            exact ih (i + 1) (ru dti q false) (hci + cI (dti q) 1) (coi + cI (dti q) 10) _ _ _ (by omega) (by unfold cb_bhS; show (match ln i with | none => _ | some q => cb_bh q (cb_bhS i _)) = _; rw [hls, hei]; rfl) (by omega) hP hD hS (lv_sub hl [1, 2, 0] rfl)
  exact LP7 _ 0 dt hc co _ _ _ (Nat.zero_le _) rfl (Nat.lt_succ_self _) hP hD hS (lv_sub hl [2, 1, 0] rfl)
end
section
theorem c_accU (l : Launch) (D : va_G) (cyI cyZ cyJ : ClassId) (h a1 a2 a3 : Nat) (u : CBu) (q : Nat) (w : Bool) (hbd : cb_bd u) (hq : q < 256) : CtV l yX0_access wsX0_access rmX0_access D (T3 cyI cyZ cyJ) [.ref h, .int (nI q), .int (bI w)] (CBc cyI cyZ h a1 a2 a3 u) (CBc cyI cyZ h a1 a2 a3 (cb_acc q w u)) := by
  obtain ⟨sc, pl, ln, bn, n, dt, hi, sw, mi, hc, co⟩ := u
  exact c_acc l D cyI cyZ cyJ h a1 a2 a3 sc pl ln bn n dt hi sw mi hc co q w hbd hq
theorem c_throwU (l : Launch) (D : va_G) (cyI cyZ cyJ : ClassId) (h a1 a2 a3 : Nat) (u : CBu) (si : Nat) (hsi : si < 16) (hbd : cb_bd u) : CtV l yX0_throwOut wsX0_throwOut rmX0_throwOut D (T3 cyI cyZ cyJ) [.ref h, .int (nI si)] (CBc cyI cyZ h a1 a2 a3 u) (CBc cyI cyZ h a1 a2 a3 (cb_throw si u)) := by
  obtain ⟨sc, pl, ln, bn, n, dt, hi, sw, mi, hc, co⟩ := u
  exact c_throw l D cyI cyZ cyJ h a1 a2 a3 sc pl ln bn n dt hi sw mi hc co si hsi hbd
theorem c_bringU (l : Launch) (D : va_G) (cyI cyZ cyJ : ClassId) (h a1 a2 a3 : Nat) (u : CBu)  (hbd : cb_bd u) : CtI l yX0_bringAllHome wsX0_bringAllHome rmX0_bringAllHome D (T3 cyI cyZ cyJ) [.ref h] (CBc cyI cyZ h a1 a2 a3 u) (cb_hc (cb_bring u) - cb_hc u) (CBc cyI cyZ h a1 a2 a3 (cb_bring u)) := by
  obtain ⟨sc, pl, ln, bn, n, dt, hi, sw, mi, hc, co⟩ := u
  exact c_bring l D cyI cyZ cyJ h a1 a2 a3 sc pl ln bn n dt hi sw mi hc co hbd
theorem c_countLinesU (l : Launch) (D : va_G) (cyI cyZ cyJ : ClassId) (h a1 a2 a3 : Nat) (u : CBu)  (hbd : cb_bd u) : CtI l yX0_countLines wsX0_countLines rmX0_countLines D (T3 cyI cyZ cyJ) [.ref h] (CBc cyI cyZ h a1 a2 a3 u) (nI (cb_lines u)) (CBc cyI cyZ h a1 a2 a3 (u)) := by
  obtain ⟨sc, pl, ln, bn, n, dt, hi, sw, mi, hc, co⟩ := u
  exact c_countLines l D cyI cyZ cyJ h a1 a2 a3 sc pl ln bn n dt hi sw mi hc co hbd
theorem c_countDirtyU (l : Launch) (D : va_G) (cyI cyZ cyJ : ClassId) (h a1 a2 a3 : Nat) (u : CBu)   : CtI l yX0_countDirty wsX0_countDirty rmX0_countDirty D (T3 cyI cyZ cyJ) [.ref h] (CBc cyI cyZ h a1 a2 a3 u) (nI (cb_dirty u)) (CBc cyI cyZ h a1 a2 a3 (u)) := by
  obtain ⟨sc, pl, ln, bn, n, dt, hi, sw, mi, hc, co⟩ := u
  exact c_countDirty l D cyI cyZ cyJ h a1 a2 a3 sc pl ln bn n dt hi sw mi hc co 
theorem c_whereIsU (l : Launch) (D : va_G) (cyI cyZ cyJ : ClassId) (h a1 a2 a3 : Nat) (u : CBu) (q : Nat) (hbd : cb_bd u) (hq : q < 256) : CtI l yX0_whereIs wsX0_whereIs rmX0_whereIs D (T3 cyI cyZ cyJ) [.ref h, .int (nI q)] (CBc cyI cyZ h a1 a2 a3 u) (nI (cb_where q u)) (CBc cyI cyZ h a1 a2 a3 (u)) := by
  obtain ⟨sc, pl, ln, bn, n, dt, hi, sw, mi, hc, co⟩ := u
  exact c_whereIs l D cyI cyZ cyJ h a1 a2 a3 sc pl ln bn n dt hi sw mi hc co q hbd hq
theorem c_startEmptyU (l : Launch) (D : va_G) (cyI cyZ cyJ : ClassId) (h a1 a2 a3 : Nat) (u : CBu) (s' p' : Nat)  : CtV l yX0_startEmpty wsX0_startEmpty rmX0_startEmpty D (T3 cyI cyZ cyJ) [.ref h, .int (nI s'), .int (nI p')] (CBc cyI cyZ h a1 a2 a3 u) (CBc cyI cyZ h a1 a2 a3 (cb_empty s' p' u)) := by
  obtain ⟨sc, pl, ln, bn, n, dt, hi, sw, mi, hc, co⟩ := u
  exact c_startEmpty l D cyI cyZ cyJ h a1 a2 a3 sc pl ln bn n dt hi sw mi hc co s' p'
abbrev rmX1_add : Room := { frames := 0, cells := 0, slots := 0, locals := 0 }
set_option maxRecDepth 100000 in
set_option maxHeartbeats 4000000 in
theorem c_add (l : Launch) (D : va_G) (cyI cyZ cyJ : ClassId) (h a1 a2 : Nat) (ll : Nat → Nat) (lw : Nat → Bool) (lc lx : Nat) (q : Nat) (w : Bool) (hlc : lc ≤ 150) (hlx : lx < 150) : CtV l yX1_add wsX1_add rmX1_add D (T3 cyI cyZ cyJ) [.ref h, .int (nI q), .int (bI w)] (LAc cyI cyZ h a1 a2 (ll, lw, lc, lx)) (LAc cyI cyZ h a1 a2 (la_add q w (ll, lw, lc, lx))) := by
  refine CtV.of (cc := cX1_add) (maxL := 3) (ret := none) (lv0 := [(0, .ref h), (1, .int (nI q)), (2, .int (bI w))]) (by decide) rfl (Nat.le_of_ble_eq_true rfl) rfl ?_
  intro p e s m below meth c A ls args Q hx hb hml hr hlk hts hown hK hP hA hD hS hl hQ
  have hown : s.vm.findClass RX1 = some m.cls := hown
  have hi_RX1 : ∀ w ∈ wsX10, w ∈ wsX1_add := by decide +kernel
  have hf_9 := hts (.fieldLink RX1 9 "OutcastBench$LastAccesses" "lines" "[I") (by decide +kernel)
  have hf_15 := hts (.fieldLink RX1 15 "OutcastBench$LastAccesses" "writes" "[Z") (by decide +kernel)
  have hf_19 := hts (.fieldLink RX1 19 "OutcastBench$LastAccesses" "next" "I") (by decide +kernel)
  have hf_23 := hts (.fieldLink RX1 23 "OutcastBench$LastAccesses" "count" "I") (by decide +kernel)
  refine lv_aload_n hx hb dX1_add_0 rfl (lv_at hl 0 rfl) ?_
  refine va_get (D := D) (ci := 1) (v := .ref a1) (C := RX1) (T := TX1) (N := 4) hx hb hts hi_RX1 hown hK hP 0 rfl rfl 0 (by decide) hf_9 (fun _ h9 => h9) rfl dX1_add_1 ?_
  refine lv_aload_n hx hb dX1_add_4 rfl (lv_at hl 0 rfl) ?_
  refine va_get (D := D) (ci := 1) (v := .int (nI lx)) (C := RX1) (T := TX1) (N := 4) hx hb hts hi_RX1 hown hK hP 0 rfl rfl 3 (by decide) hf_19 (fun _ h9 => h9) rfl dX1_add_5 ?_
  refine lv_iload_n hx hb dX1_add_8 rfl (lv_at hl 1 rfl) ?_
  refine mq_st (k := lx) nI ll q (ws' := LAc cyI cyZ h a1 a2 (ru ll lx q, lw, lc, lx)) hx hb hK hP hD hS 1 0 rfl rfl (by omega) (Nat.le_of_ble_eq_true rfl) dX1_add_9 rfl (fun H locs hP hD hS => ?_)
  refine lv_aload_n hx hb dX1_add_10 rfl (lv_at hl 0 rfl) ?_
  refine va_get (D := D) (ci := 1) (v := .ref a2) (C := RX1) (T := TX1) (N := 4) hx hb hts hi_RX1 hown hK hP 0 rfl rfl 1 (by decide) hf_15 (fun _ h9 => h9) rfl dX1_add_11 ?_
  refine lv_aload_n hx hb dX1_add_14 rfl (lv_at hl 0 rfl) ?_
  refine va_get (D := D) (ci := 1) (v := .int (nI lx)) (C := RX1) (T := TX1) (N := 4) hx hb hts hi_RX1 hown hK hP 0 rfl rfl 3 (by decide) hf_19 (fun _ h9 => h9) rfl dX1_add_15 ?_
  refine lv_iload_n hx hb dX1_add_18 rfl (lv_at hl 2 rfl) ?_
  refine mq_zst (k := lx) lw w (ws' := LAc cyI cyZ h a1 a2 (ru ll lx q, ru lw lx w, lc, lx)) hx hb hK hP hD hS 2 1 rfl rfl (by omega) (Nat.le_of_ble_eq_true rfl) dX1_add_19 rfl (fun H locs hP hD hS => ?_)
  refine lv_aload_n hx hb dX1_add_20 rfl (lv_at hl 0 rfl) ?_
  refine lv_aload_n hx hb dX1_add_21 rfl (lv_at hl 0 rfl) ?_
  refine va_get (D := D) (ci := 1) (v := .int (nI lx)) (C := RX1) (T := TX1) (N := 4) hx hb hts hi_RX1 hown hK hP 0 rfl rfl 3 (by decide) hf_19 (fun _ h9 => h9) rfl dX1_add_22 ?_
  refine lv_iconst (v := nI 1) hx hb dX1_add_25 (by decide) ?_
  refine mq_iadd (x := lx) (y := 1) hx hb dX1_add_26 ?_
  refine lv_sipush (v := nI 150) hx hb dX1_add_27 (by decide) ?_
  refine mq_ge (x := (lx + 1)) (y := 150) (tgt := 42) (by omega) (by omega) hx hb dX1_add_30 (by decide) (fun c1 => ?_) (fun c1 => ?_)
  · refine lv_iconst (v := nI 0) hx hb dX1_add_42 (by decide) ?_
    refine mq_put (D := D) (ci := 1) (v := .int (nI 0)) (ty := .int) (C := RX1) (T := TX1) (N := 4) (ws' := LAc cyI cyZ h a1 a2 (ru ll lx q, ru lw lx w, lc, 0)) hx hb hts hi_RX1 tyX1 tyX1_ok nmX1 hown hK hP hD hS 0 rfl rfl 3 (by decide) hf_19 (fun _ h9 => h9) rfl (by decide +kernel) rfl rfl (Nat.le_of_ble_eq_true rfl) dX1_add_43 rfl (fun H locs hP hD hS => ?_)
    refine lv_aload_n hx hb dX1_add_46 rfl (lv_at hl 0 rfl) ?_
    refine va_get (D := D) (ci := 1) (v := .int (nI lc)) (C := RX1) (T := TX1) (N := 4) hx hb hts hi_RX1 hown hK hP 0 rfl rfl 2 (by decide) hf_23 (fun _ h9 => h9) rfl dX1_add_47 ?_
    refine lv_sipush (v := nI 150) hx hb dX1_add_50 (by decide) ?_
    refine mq_ge (x := lc) (y := 150) (tgt := 66) (by omega) (by omega) hx hb dX1_add_53 (by decide) (fun c2 => ?_) (fun c2 => ?_)
    · exact CtV.ret hQ hx hb hr hlk hK hP hD hS dX1_add_66 (congrArg (LAc cyI cyZ h a1 a2) (by simp only [la_add]; rw [if_neg (show ¬ lx + 1 < 150 by omega), if_neg (by omega)]))
    · refine lv_aload_n hx hb dX1_add_56 rfl (lv_at hl 0 rfl) ?_
      refine lv_dup hx hb dX1_add_57 rfl ?_
      refine va_get (D := D) (ci := 1) (v := .int (nI lc)) (C := RX1) (T := TX1) (N := 4) hx hb hts hi_RX1 hown hK hP 0 rfl rfl 2 (by decide) hf_23 (fun _ h9 => h9) rfl dX1_add_58 ?_
      refine lv_iconst (v := nI 1) hx hb dX1_add_61 (by decide) ?_
      refine mq_iadd (x := lc) (y := 1) hx hb dX1_add_62 ?_
      refine mq_put (D := D) (ci := 1) (v := .int (nI (lc + 1))) (ty := .int) (C := RX1) (T := TX1) (N := 4) (ws' := LAc cyI cyZ h a1 a2 (ru ll lx q, ru lw lx w, lc + 1, 0)) hx hb hts hi_RX1 tyX1 tyX1_ok nmX1 hown hK hP hD hS 0 rfl rfl 2 (by decide) hf_23 (fun _ h9 => h9) rfl (by decide +kernel) rfl rfl (Nat.le_of_ble_eq_true rfl) dX1_add_63 rfl (fun H locs hP hD hS => ?_)
      exact CtV.ret hQ hx hb hr hlk hK hP hD hS dX1_add_66 (congrArg (LAc cyI cyZ h a1 a2) (by simp only [la_add]; rw [if_neg (show ¬ lx + 1 < 150 by omega), if_pos (by omega)]))
  · refine lv_aload_n hx hb dX1_add_33 rfl (lv_at hl 0 rfl) ?_
    refine va_get (D := D) (ci := 1) (v := .int (nI lx)) (C := RX1) (T := TX1) (N := 4) hx hb hts hi_RX1 hown hK hP 0 rfl rfl 3 (by decide) hf_19 (fun _ h9 => h9) rfl dX1_add_34 ?_
    refine lv_iconst (v := nI 1) hx hb dX1_add_37 (by decide) ?_
    refine mq_iadd (x := lx) (y := 1) hx hb dX1_add_38 ?_
    refine lv_goto (tgt := 43) hx hb dX1_add_39 (by decide) ?_
    refine mq_put (D := D) (ci := 1) (v := .int (nI (lx + 1))) (ty := .int) (C := RX1) (T := TX1) (N := 4) (ws' := LAc cyI cyZ h a1 a2 (ru ll lx q, ru lw lx w, lc, lx + 1)) hx hb hts hi_RX1 tyX1 tyX1_ok nmX1 hown hK hP hD hS 0 rfl rfl 3 (by decide) hf_19 (fun _ h9 => h9) rfl (by decide +kernel) rfl rfl (Nat.le_of_ble_eq_true rfl) dX1_add_43 rfl (fun H locs hP hD hS => ?_)
    refine lv_aload_n hx hb dX1_add_46 rfl (lv_at hl 0 rfl) ?_
    refine va_get (D := D) (ci := 1) (v := .int (nI lc)) (C := RX1) (T := TX1) (N := 4) hx hb hts hi_RX1 hown hK hP 0 rfl rfl 2 (by decide) hf_23 (fun _ h9 => h9) rfl dX1_add_47 ?_
    refine lv_sipush (v := nI 150) hx hb dX1_add_50 (by decide) ?_
    refine mq_ge (x := lc) (y := 150) (tgt := 66) (by omega) (by omega) hx hb dX1_add_53 (by decide) (fun c2 => ?_) (fun c2 => ?_)
    · exact CtV.ret hQ hx hb hr hlk hK hP hD hS dX1_add_66 (congrArg (LAc cyI cyZ h a1 a2) (by simp only [la_add]; rw [if_pos c1, if_neg (by omega)]))
    · refine lv_aload_n hx hb dX1_add_56 rfl (lv_at hl 0 rfl) ?_
      refine lv_dup hx hb dX1_add_57 rfl ?_
      refine va_get (D := D) (ci := 1) (v := .int (nI lc)) (C := RX1) (T := TX1) (N := 4) hx hb hts hi_RX1 hown hK hP 0 rfl rfl 2 (by decide) hf_23 (fun _ h9 => h9) rfl dX1_add_58 ?_
      refine lv_iconst (v := nI 1) hx hb dX1_add_61 (by decide) ?_
      refine mq_iadd (x := lc) (y := 1) hx hb dX1_add_62 ?_
      refine mq_put (D := D) (ci := 1) (v := .int (nI (lc + 1))) (ty := .int) (C := RX1) (T := TX1) (N := 4) (ws' := LAc cyI cyZ h a1 a2 (ru ll lx q, ru lw lx w, lc + 1, lx + 1)) hx hb hts hi_RX1 tyX1 tyX1_ok nmX1 hown hK hP hD hS 0 rfl rfl 2 (by decide) hf_23 (fun _ h9 => h9) rfl (by decide +kernel) rfl rfl (Nat.le_of_ble_eq_true rfl) dX1_add_63 rfl (fun H locs hP hD hS => ?_)
      exact CtV.ret hQ hx hb hr hlk hK hP hD hS dX1_add_66 (congrArg (LAc cyI cyZ h a1 a2) (by simp only [la_add]; rw [if_pos c1, if_pos (by omega)]))
abbrev rmX1_slotOf : Room := { frames := 0, cells := 0, slots := 0, locals := 0 }
set_option maxRecDepth 100000 in
set_option maxHeartbeats 4000000 in
theorem c_slotOf (l : Launch) (D : va_G) (cyI cyZ cyJ : ClassId) (h a1 a2 : Nat) (ll : Nat → Nat) (lw : Nat → Bool) (lc lx : Nat) (k : Nat) (hlc : lc ≤ 150) (hlx : lx < 150) (hk : k < 150) : CtI l yX1_slotOf wsX1_slotOf rmX1_slotOf D (T3 cyI cyZ cyJ) [.ref h, .int (nI k)] (LAc cyI cyZ h a1 a2 (ll, lw, lc, lx)) (nI (la_slot k (ll, lw, lc, lx))) (LAc cyI cyZ h a1 a2 (ll, lw, lc, lx)) := by
  refine CtI.of (cc := cX1_slotOf) (maxL := 3) (ret := (some .int)) (lv0 := [(0, .ref h), (1, .int (nI k))]) (by decide) rfl (Nat.le_of_ble_eq_true rfl) rfl ?_
  intro p e s m below meth c A ls args Q hx hb hml hr hlk hts hown hK hP hA hD hS hl hQ
  have hown : s.vm.findClass RX1 = some m.cls := hown
  have hi_RX1 : ∀ w ∈ wsX10, w ∈ wsX1_slotOf := by decide +kernel
  have hf_19 := hts (.fieldLink RX1 19 "OutcastBench$LastAccesses" "next" "I") (by decide +kernel)
  have hf_23 := hts (.fieldLink RX1 23 "OutcastBench$LastAccesses" "count" "I") (by decide +kernel)
  refine lv_aload_n hx hb dX1_slotOf_0 rfl (lv_at hl 0 rfl) ?_
  refine va_get (D := D) (ci := 1) (v := .int (nI lc)) (C := RX1) (T := TX1) (N := 4) hx hb hts hi_RX1 hown hK hP 0 rfl rfl 2 (by decide) hf_23 (fun _ h9 => h9) rfl dX1_slotOf_1 ?_
  refine lv_sipush (v := nI 150) hx hb dX1_slotOf_4 (by decide) ?_
  refine mq_ge (x := lc) (y := 150) (tgt := 14) (by omega) (by omega) hx hb dX1_slotOf_7 (by decide) (fun c1 => ?_) (fun c1 => ?_)
  · refine lv_aload_n hx hb dX1_slotOf_14 rfl (lv_at hl 0 rfl) ?_
    refine va_get (D := D) (ci := 1) (v := .int (nI lx)) (C := RX1) (T := TX1) (N := 4) hx hb hts hi_RX1 hown hK hP 0 rfl rfl 3 (by decide) hf_19 (fun _ h9 => h9) rfl dX1_slotOf_15 ?_
    refine lv_istore_n (lv' := [(2, .int (nI lx)), (0, .ref h), (1, .int (nI k))]) hx hb dX1_slotOf_18 rfl hl (by decide) rfl (fun ls hl => ?_)
    refine lv_iload_n hx hb dX1_slotOf_19 rfl (lv_at hl 0 rfl) ?_
    refine lv_iload_n hx hb dX1_slotOf_20 rfl (lv_at hl 2 rfl) ?_
    refine mq_iadd (x := lx) (y := k) hx hb dX1_slotOf_21 ?_
    refine lv_sipush (v := nI 150) hx hb dX1_slotOf_22 (by decide) ?_
    refine mq_irem (x := (lx + k)) (y := 150) (by omega) (by decide) (by decide) hx hb dX1_slotOf_25 ?_
    exact CtI.ret hQ hx hb hr hlk hK hP hD hS dX1_slotOf_26 (by simp only [la_slot]; rw [if_neg (by omega)]) rfl
  · refine lv_iconst (v := nI 0) hx hb dX1_slotOf_10 (by decide) ?_
    refine lv_goto (tgt := 18) hx hb dX1_slotOf_11 (by decide) ?_
    refine lv_istore_n (lv' := [(2, .int (nI 0)), (0, .ref h), (1, .int (nI k))]) hx hb dX1_slotOf_18 rfl hl (by decide) rfl (fun ls hl => ?_)
    refine lv_iload_n hx hb dX1_slotOf_19 rfl (lv_at hl 0 rfl) ?_
    refine lv_iload_n hx hb dX1_slotOf_20 rfl (lv_at hl 2 rfl) ?_
    refine mq_iadd (x := 0) (y := k) hx hb dX1_slotOf_21 ?_
    refine lv_sipush (v := nI 150) hx hb dX1_slotOf_22 (by decide) ?_
    refine mq_irem (x := (0 + k)) (y := 150) (by omega) (by decide) (by decide) hx hb dX1_slotOf_25 ?_
    exact CtI.ret hQ hx hb hr hlk hK hP hD hS dX1_slotOf_26 (by simp only [la_slot]; rw [if_pos c1]) rfl
theorem c_addU (l : Launch) (D : va_G) (cyI cyZ cyJ : ClassId) (h a1 a2 : Nat) (la : LAu) (q : Nat) (w : Bool) (hla : la_bd la) : CtV l yX1_add wsX1_add rmX1_add D (T3 cyI cyZ cyJ) [.ref h, .int (nI q), .int (bI w)] (LAc cyI cyZ h a1 a2 la) (LAc cyI cyZ h a1 a2 (la_add q w la)) := by
  obtain ⟨ll, lw, lc, lx⟩ := la
  obtain ⟨hlc, hlx, hll⟩ := hla
  exact c_add l D cyI cyZ cyJ h a1 a2 ll lw lc lx q w hlc hlx
theorem c_slotOfU (l : Launch) (D : va_G) (cyI cyZ cyJ : ClassId) (h a1 a2 : Nat) (la : LAu) (k : Nat) (hla : la_bd la) (hk : k < 150) : CtI l yX1_slotOf wsX1_slotOf rmX1_slotOf D (T3 cyI cyZ cyJ) [.ref h, .int (nI k)] (LAc cyI cyZ h a1 a2 la) (nI (la_slot k la)) (LAc cyI cyZ h a1 a2 (la)) := by
  obtain ⟨ll, lw, lc, lx⟩ := la
  obtain ⟨hlc, hlx, hll⟩ := hla
  exact c_slotOf l D cyI cyZ cyJ h a1 a2 ll lw lc lx k hlc hlx hk
end
section
abbrev rmX2_lineOf : Room := { frames := 0, cells := 0, slots := 0, locals := 0 }
set_option maxRecDepth 100000 in
set_option maxHeartbeats 4000000 in
theorem c_lineOf (l : Launch) (D : va_G) (cyI cyZ cyJ : ClassId) (a : Nat) (ha : a < 2 ^ 31) : CtI l yX2_lineOf wsX2_lineOf rmX2_lineOf D (T3 cyI cyZ cyJ) [.int (nI a)] (([] : va_W)) (nI (a / 4)) (([] : va_W)) := by
  refine CtI.of (cc := cX2_lineOf) (maxL := 1) (ret := (some .int)) (lv0 := [(0, .int (nI a))]) (by decide) rfl (Nat.le_of_ble_eq_true rfl) rfl ?_
  intro p e s m below meth c A ls args Q hx hb hml hr hlk hts hown hK hP hA hD hS hl hQ
  have hown : s.vm.findClass RX2 = some m.cls := hown
  refine lv_iload_n hx hb dX2_lineOf_0 rfl (lv_at hl 0 rfl) ?_
  refine lv_iconst (v := nI 4) hx hb dX2_lineOf_1 (by decide) ?_
  refine mq_idiv (x := a) (y := 4) ha (by decide) (by decide) hx hb dX2_lineOf_2 ?_
  exact CtI.ret hQ hx hb hr hlk hK hP hD hS dX2_lineOf_3 rfl rfl
abbrev rmX2_requireWord : Room := { frames := 0, cells := 0, slots := 0, locals := 0 }
set_option maxRecDepth 100000 in
set_option maxHeartbeats 4000000 in
theorem c_requireWord (l : Launch) (D : va_G) (cyI cyZ cyJ : ClassId) (a : Nat) (ha : a < 1024) : CtV l yX2_requireWord wsX2_requireWord rmX2_requireWord D (T3 cyI cyZ cyJ) [.int (nI a)] (([] : va_W)) (([] : va_W)) := by
  refine CtV.of (cc := cX2_requireWord) (maxL := 1) (ret := none) (lv0 := [(0, .int (nI a))]) (by decide) rfl (Nat.le_of_ble_eq_true rfl) rfl ?_
  intro p e s m below meth c A ls args Q hx hb hml hr hlk hts hown hK hP hA hD hS hl hQ
  have hown : s.vm.findClass RX2 = some m.cls := hown
  refine lv_iload_n hx hb dX2_requireWord_0 rfl (lv_at hl 0 rfl) ?_
  refine lv_if_lt (x := nI a) (tgt := 11) hx hb dX2_requireWord_1 (by decide) (fun c1 => ?_) (fun c1 => ?_)
  · exact absurd c1 (nI_pos (by omega))
  · refine lv_iload_n hx hb dX2_requireWord_4 rfl (lv_at hl 0 rfl) ?_
    refine lv_sipush (v := nI 1024) hx hb dX2_requireWord_5 (by decide) ?_
    refine mq_lt (x := a) (y := 1024) (tgt := 21) (by omega) (by omega) hx hb dX2_requireWord_8 (by decide) (fun c2 => ?_) (fun c2 => ?_)
    · exact CtV.ret hQ hx hb hr hlk hK hP hD hS dX2_requireWord_21 rfl
    · exact absurd ha (by omega)
abbrev rmX2_requireLine : Room := { frames := 0, cells := 0, slots := 0, locals := 0 }
set_option maxRecDepth 100000 in
set_option maxHeartbeats 4000000 in
theorem c_requireLine (l : Launch) (D : va_G) (cyI cyZ cyJ : ClassId) (a : Nat) (ha : a < 256) : CtV l yX2_requireLine wsX2_requireLine rmX2_requireLine D (T3 cyI cyZ cyJ) [.int (nI a)] (([] : va_W)) (([] : va_W)) := by
  refine CtV.of (cc := cX2_requireLine) (maxL := 1) (ret := none) (lv0 := [(0, .int (nI a))]) (by decide) rfl (Nat.le_of_ble_eq_true rfl) rfl ?_
  intro p e s m below meth c A ls args Q hx hb hml hr hlk hts hown hK hP hA hD hS hl hQ
  have hown : s.vm.findClass RX2 = some m.cls := hown
  refine lv_iload_n hx hb dX2_requireLine_0 rfl (lv_at hl 0 rfl) ?_
  refine lv_if_lt (x := nI a) (tgt := 11) hx hb dX2_requireLine_1 (by decide) (fun c1 => ?_) (fun c1 => ?_)
  · exact absurd c1 (nI_pos (by omega))
  · refine lv_iload_n hx hb dX2_requireLine_4 rfl (lv_at hl 0 rfl) ?_
    refine lv_sipush (v := nI 256) hx hb dX2_requireLine_5 (by decide) ?_
    refine mq_lt (x := a) (y := 256) (tgt := 21) (by omega) (by omega) hx hb dX2_requireLine_8 (by decide) (fun c2 => ?_) (fun c2 => ?_)
    · exact CtV.ret hQ hx hb hr hlk hK hP hD hS dX2_requireLine_21 rfl
    · exact absurd ha (by omega)
abbrev rmX2_requireSize : Room := { frames := 0, cells := 0, slots := 0, locals := 0 }
set_option maxRecDepth 100000 in
set_option maxHeartbeats 4000000 in
theorem c_requireSize (l : Launch) (D : va_G) (cyI cyZ cyJ : ClassId) (s' p' : Nat) (hs : s' = 1 ∨ s' = 2 ∨ s' = 4 ∨ s' = 8 ∨ s' = 16) (hp : p' ≤ 8) : CtV l yX2_requireSize wsX2_requireSize rmX2_requireSize D (T3 cyI cyZ cyJ) [.int (nI s'), .int (nI p')] (([] : va_W)) (([] : va_W)) := by
  refine CtV.of (cc := cX2_requireSize) (maxL := 3) (ret := none) (lv0 := [(0, .int (nI s')), (1, .int (nI p'))]) (by decide) rfl (Nat.le_of_ble_eq_true rfl) rfl ?_
  intro p e s m below meth c A ls args Q hx hb hml hr hlk hts hown hK hP hA hD hS hl hQ
  have hown : s.vm.findClass RX2 = some m.cls := hown
  rcases hs with rfl | rfl | rfl | rfl | rfl
  · refine lv_iload_n hx hb dX2_requireSize_0 rfl (lv_at hl 0 rfl) ?_
    refine lv_iconst (v := nI 1) hx hb dX2_requireSize_1 (by decide) ?_
    refine mq_eq (x := 1) (y := 1) (tgt := 27) (by omega) (by omega) hx hb dX2_requireSize_2 (by decide) (fun c1 => ?_) (fun c1 => ?_)
    · refine lv_iconst (v := nI 1) hx hb dX2_requireSize_27 (by decide) ?_
      refine lv_goto (tgt := 32) hx hb dX2_requireSize_28 (by decide) ?_
      refine lv_istore_n (lv' := [(2, .int (nI 1)), (0, .int (nI 1)), (1, .int (nI p'))]) hx hb dX2_requireSize_32 rfl hl (by decide) rfl (fun ls hl => ?_)
      refine lv_iload_n hx hb dX2_requireSize_33 rfl (lv_at hl 0 rfl) ?_
      refine mq_z (x := 1) (tgt := 47) (by omega) hx hb dX2_requireSize_34 (by decide) (fun c4 => ?_) (fun c4 => ?_)
      · exact absurd c4 (by decide)
      · refine lv_iload_n hx hb dX2_requireSize_37 rfl (lv_at hl 2 rfl) ?_
        refine lv_if_lt (x := nI p') (tgt := 47) hx hb dX2_requireSize_38 (by decide) (fun c3 => ?_) (fun c3 => ?_)
        · exact absurd c3 (nI_pos (by omega))
        · refine lv_iload_n hx hb dX2_requireSize_41 rfl (lv_at hl 2 rfl) ?_
          refine lv_bipush (v := nI 8) hx hb dX2_requireSize_42 (by decide) ?_
          refine lv_icmp_le (x := nI p') (y := 8) (tgt := 57) hx hb dX2_requireSize_44 (by decide) (fun c2 => ?_) (fun c2 => ?_)
          · exact CtV.ret hQ hx hb hr hlk hK hP hD hS dX2_requireSize_57 rfl
          · exact absurd (nI_le hp (by decide)) c2
    · exact absurd c1 (by decide)
  · refine lv_iload_n hx hb dX2_requireSize_0 rfl (lv_at hl 0 rfl) ?_
    refine lv_iconst (v := nI 1) hx hb dX2_requireSize_1 (by decide) ?_
    refine mq_eq (x := 2) (y := 1) (tgt := 27) (by omega) (by omega) hx hb dX2_requireSize_2 (by decide) (fun c2 => ?_) (fun c2 => ?_)
    · exact absurd c2 (by decide)
    · refine lv_iload_n hx hb dX2_requireSize_5 rfl (lv_at hl 0 rfl) ?_
      refine lv_iconst (v := nI 2) hx hb dX2_requireSize_6 (by decide) ?_
      refine mq_eq (x := 2) (y := 2) (tgt := 27) (by omega) (by omega) hx hb dX2_requireSize_7 (by decide) (fun c3 => ?_) (fun c3 => ?_)
      · refine lv_iconst (v := nI 1) hx hb dX2_requireSize_27 (by decide) ?_
        refine lv_goto (tgt := 32) hx hb dX2_requireSize_28 (by decide) ?_
        refine lv_istore_n (lv' := [(2, .int (nI 1)), (0, .int (nI 2)), (1, .int (nI p'))]) hx hb dX2_requireSize_32 rfl hl (by decide) rfl (fun ls hl => ?_)
        refine lv_iload_n hx hb dX2_requireSize_33 rfl (lv_at hl 0 rfl) ?_
        refine mq_z (x := 1) (tgt := 47) (by omega) hx hb dX2_requireSize_34 (by decide) (fun c4 => ?_) (fun c4 => ?_)
        · exact absurd c4 (by decide)
        · refine lv_iload_n hx hb dX2_requireSize_37 rfl (lv_at hl 2 rfl) ?_
          refine lv_if_lt (x := nI p') (tgt := 47) hx hb dX2_requireSize_38 (by decide) (fun c3 => ?_) (fun c3 => ?_)
          · exact absurd c3 (nI_pos (by omega))
          · refine lv_iload_n hx hb dX2_requireSize_41 rfl (lv_at hl 2 rfl) ?_
            refine lv_bipush (v := nI 8) hx hb dX2_requireSize_42 (by decide) ?_
            refine lv_icmp_le (x := nI p') (y := 8) (tgt := 57) hx hb dX2_requireSize_44 (by decide) (fun c2 => ?_) (fun c2 => ?_)
            · exact CtV.ret hQ hx hb hr hlk hK hP hD hS dX2_requireSize_57 rfl
            · exact absurd (nI_le hp (by decide)) c2
      · exact absurd c3 (by decide)
  · refine lv_iload_n hx hb dX2_requireSize_0 rfl (lv_at hl 0 rfl) ?_
    refine lv_iconst (v := nI 1) hx hb dX2_requireSize_1 (by decide) ?_
    refine mq_eq (x := 4) (y := 1) (tgt := 27) (by omega) (by omega) hx hb dX2_requireSize_2 (by decide) (fun c4 => ?_) (fun c4 => ?_)
    · exact absurd c4 (by decide)
    · refine lv_iload_n hx hb dX2_requireSize_5 rfl (lv_at hl 0 rfl) ?_
      refine lv_iconst (v := nI 2) hx hb dX2_requireSize_6 (by decide) ?_
      refine mq_eq (x := 4) (y := 2) (tgt := 27) (by omega) (by omega) hx hb dX2_requireSize_7 (by decide) (fun c5 => ?_) (fun c5 => ?_)
      · exact absurd c5 (by decide)
      · refine lv_iload_n hx hb dX2_requireSize_10 rfl (lv_at hl 0 rfl) ?_
        refine lv_iconst (v := nI 4) hx hb dX2_requireSize_11 (by decide) ?_
        refine mq_eq (x := 4) (y := 4) (tgt := 27) (by omega) (by omega) hx hb dX2_requireSize_12 (by decide) (fun c6 => ?_) (fun c6 => ?_)
        · refine lv_iconst (v := nI 1) hx hb dX2_requireSize_27 (by decide) ?_
          refine lv_goto (tgt := 32) hx hb dX2_requireSize_28 (by decide) ?_
          refine lv_istore_n (lv' := [(2, .int (nI 1)), (0, .int (nI 4)), (1, .int (nI p'))]) hx hb dX2_requireSize_32 rfl hl (by decide) rfl (fun ls hl => ?_)
          refine lv_iload_n hx hb dX2_requireSize_33 rfl (lv_at hl 0 rfl) ?_
          refine mq_z (x := 1) (tgt := 47) (by omega) hx hb dX2_requireSize_34 (by decide) (fun c4 => ?_) (fun c4 => ?_)
          · exact absurd c4 (by decide)
          · refine lv_iload_n hx hb dX2_requireSize_37 rfl (lv_at hl 2 rfl) ?_
            refine lv_if_lt (x := nI p') (tgt := 47) hx hb dX2_requireSize_38 (by decide) (fun c3 => ?_) (fun c3 => ?_)
            · exact absurd c3 (nI_pos (by omega))
            · refine lv_iload_n hx hb dX2_requireSize_41 rfl (lv_at hl 2 rfl) ?_
              refine lv_bipush (v := nI 8) hx hb dX2_requireSize_42 (by decide) ?_
              refine lv_icmp_le (x := nI p') (y := 8) (tgt := 57) hx hb dX2_requireSize_44 (by decide) (fun c2 => ?_) (fun c2 => ?_)
              · exact CtV.ret hQ hx hb hr hlk hK hP hD hS dX2_requireSize_57 rfl
              · exact absurd (nI_le hp (by decide)) c2
        · exact absurd c6 (by decide)
  · refine lv_iload_n hx hb dX2_requireSize_0 rfl (lv_at hl 0 rfl) ?_
    refine lv_iconst (v := nI 1) hx hb dX2_requireSize_1 (by decide) ?_
    refine mq_eq (x := 8) (y := 1) (tgt := 27) (by omega) (by omega) hx hb dX2_requireSize_2 (by decide) (fun c7 => ?_) (fun c7 => ?_)
    · exact absurd c7 (by decide)
    · refine lv_iload_n hx hb dX2_requireSize_5 rfl (lv_at hl 0 rfl) ?_
      refine lv_iconst (v := nI 2) hx hb dX2_requireSize_6 (by decide) ?_
      refine mq_eq (x := 8) (y := 2) (tgt := 27) (by omega) (by omega) hx hb dX2_requireSize_7 (by decide) (fun c8 => ?_) (fun c8 => ?_)
      · exact absurd c8 (by decide)
      · refine lv_iload_n hx hb dX2_requireSize_10 rfl (lv_at hl 0 rfl) ?_
        refine lv_iconst (v := nI 4) hx hb dX2_requireSize_11 (by decide) ?_
        refine mq_eq (x := 8) (y := 4) (tgt := 27) (by omega) (by omega) hx hb dX2_requireSize_12 (by decide) (fun c9 => ?_) (fun c9 => ?_)
        · exact absurd c9 (by decide)
        · refine lv_iload_n hx hb dX2_requireSize_15 rfl (lv_at hl 0 rfl) ?_
          refine lv_bipush (v := nI 8) hx hb dX2_requireSize_16 (by decide) ?_
          refine mq_eq (x := 8) (y := 8) (tgt := 27) (by omega) (by omega) hx hb dX2_requireSize_18 (by decide) (fun c10 => ?_) (fun c10 => ?_)
          · refine lv_iconst (v := nI 1) hx hb dX2_requireSize_27 (by decide) ?_
            refine lv_goto (tgt := 32) hx hb dX2_requireSize_28 (by decide) ?_
            refine lv_istore_n (lv' := [(2, .int (nI 1)), (0, .int (nI 8)), (1, .int (nI p'))]) hx hb dX2_requireSize_32 rfl hl (by decide) rfl (fun ls hl => ?_)
            refine lv_iload_n hx hb dX2_requireSize_33 rfl (lv_at hl 0 rfl) ?_
            refine mq_z (x := 1) (tgt := 47) (by omega) hx hb dX2_requireSize_34 (by decide) (fun c4 => ?_) (fun c4 => ?_)
            · exact absurd c4 (by decide)
            · refine lv_iload_n hx hb dX2_requireSize_37 rfl (lv_at hl 2 rfl) ?_
              refine lv_if_lt (x := nI p') (tgt := 47) hx hb dX2_requireSize_38 (by decide) (fun c3 => ?_) (fun c3 => ?_)
              · exact absurd c3 (nI_pos (by omega))
              · refine lv_iload_n hx hb dX2_requireSize_41 rfl (lv_at hl 2 rfl) ?_
                refine lv_bipush (v := nI 8) hx hb dX2_requireSize_42 (by decide) ?_
                refine lv_icmp_le (x := nI p') (y := 8) (tgt := 57) hx hb dX2_requireSize_44 (by decide) (fun c2 => ?_) (fun c2 => ?_)
                · exact CtV.ret hQ hx hb hr hlk hK hP hD hS dX2_requireSize_57 rfl
                · exact absurd (nI_le hp (by decide)) c2
          · exact absurd c10 (by decide)
  · refine lv_iload_n hx hb dX2_requireSize_0 rfl (lv_at hl 0 rfl) ?_
    refine lv_iconst (v := nI 1) hx hb dX2_requireSize_1 (by decide) ?_
    refine mq_eq (x := 16) (y := 1) (tgt := 27) (by omega) (by omega) hx hb dX2_requireSize_2 (by decide) (fun c11 => ?_) (fun c11 => ?_)
    · exact absurd c11 (by decide)
    · refine lv_iload_n hx hb dX2_requireSize_5 rfl (lv_at hl 0 rfl) ?_
      refine lv_iconst (v := nI 2) hx hb dX2_requireSize_6 (by decide) ?_
      refine mq_eq (x := 16) (y := 2) (tgt := 27) (by omega) (by omega) hx hb dX2_requireSize_7 (by decide) (fun c12 => ?_) (fun c12 => ?_)
      · exact absurd c12 (by decide)
      · refine lv_iload_n hx hb dX2_requireSize_10 rfl (lv_at hl 0 rfl) ?_
        refine lv_iconst (v := nI 4) hx hb dX2_requireSize_11 (by decide) ?_
        refine mq_eq (x := 16) (y := 4) (tgt := 27) (by omega) (by omega) hx hb dX2_requireSize_12 (by decide) (fun c13 => ?_) (fun c13 => ?_)
        · exact absurd c13 (by decide)
        · refine lv_iload_n hx hb dX2_requireSize_15 rfl (lv_at hl 0 rfl) ?_
          refine lv_bipush (v := nI 8) hx hb dX2_requireSize_16 (by decide) ?_
          refine mq_eq (x := 16) (y := 8) (tgt := 27) (by omega) (by omega) hx hb dX2_requireSize_18 (by decide) (fun c14 => ?_) (fun c14 => ?_)
          · exact absurd c14 (by decide)
          · refine lv_iload_n hx hb dX2_requireSize_21 rfl (lv_at hl 0 rfl) ?_
            refine lv_bipush (v := nI 16) hx hb dX2_requireSize_22 (by decide) ?_
            refine mq_ne (x := 16) (y := 16) (tgt := 31) (by omega) (by omega) hx hb dX2_requireSize_24 (by decide) (fun c15 => ?_) (fun c15 => ?_)
            · exact absurd c15 (by decide)
            · refine lv_iconst (v := nI 1) hx hb dX2_requireSize_27 (by decide) ?_
              refine lv_goto (tgt := 32) hx hb dX2_requireSize_28 (by decide) ?_
              refine lv_istore_n (lv' := [(2, .int (nI 1)), (0, .int (nI 16)), (1, .int (nI p'))]) hx hb dX2_requireSize_32 rfl hl (by decide) rfl (fun ls hl => ?_)
              refine lv_iload_n hx hb dX2_requireSize_33 rfl (lv_at hl 0 rfl) ?_
              refine mq_z (x := 1) (tgt := 47) (by omega) hx hb dX2_requireSize_34 (by decide) (fun c4 => ?_) (fun c4 => ?_)
              · exact absurd c4 (by decide)
              · refine lv_iload_n hx hb dX2_requireSize_37 rfl (lv_at hl 2 rfl) ?_
                refine lv_if_lt (x := nI p') (tgt := 47) hx hb dX2_requireSize_38 (by decide) (fun c3 => ?_) (fun c3 => ?_)
                · exact absurd c3 (nI_pos (by omega))
                · refine lv_iload_n hx hb dX2_requireSize_41 rfl (lv_at hl 2 rfl) ?_
                  refine lv_bipush (v := nI 8) hx hb dX2_requireSize_42 (by decide) ?_
                  refine lv_icmp_le (x := nI p') (y := 8) (tgt := 57) hx hb dX2_requireSize_44 (by decide) (fun c2 => ?_) (fun c2 => ?_)
                  · exact CtV.ret hQ hx hb hr hlk hK hP hD hS dX2_requireSize_57 rfl
                  · exact absurd (nI_le hp (by decide)) c2
abbrev rmX2_requireSet : Room := { frames := 0, cells := 0, slots := 0, locals := 0 }
set_option maxRecDepth 100000 in
set_option maxHeartbeats 4000000 in
theorem c_requireSet (l : Launch) (D : va_G) (cyI cyZ cyJ : ClassId) (h b1 b2 hu u1 u2 u3 ht t1 t2 t3 hw l1 l2 : Nat) (wr hm : Nat → Int32) (u tr : CBu) (la : LAu) (k : Nat) (hbd : cb_bd u) (hk : k < u.1) : CtV l yX2_requireSet wsX2_requireSet rmX2_requireSet D (T3 cyI cyZ cyJ) [.ref h, .int (nI k)] ((OBo cyI h b1 b2 hu ht hw wr hm) ++ ((CBc cyI cyZ hu u1 u2 u3 u) ++ ((CBc cyI cyZ ht t1 t2 t3 tr) ++ (LAc cyI cyZ hw l1 l2 la)))) ((OBo cyI h b1 b2 hu ht hw wr hm) ++ ((CBc cyI cyZ hu u1 u2 u3 u) ++ ((CBc cyI cyZ ht t1 t2 t3 tr) ++ (LAc cyI cyZ hw l1 l2 la)))) := by
  refine CtV.of (cc := cX2_requireSet) (maxL := 2) (ret := none) (lv0 := [(0, .ref h), (1, .int (nI k))]) (by decide) rfl (Nat.le_of_ble_eq_true rfl) rfl ?_
  intro p e s m below meth c A ls args Q hx hb hml hr hlk hts hown hK hP hA hD hS hl hQ
  have hP : va_P D vwCl ((OBo cyI h b1 b2 hu ht hw wr hm) ++ ((CBc cyI cyZ hu u1 u2 u3 (u.1, u.2.1, u.2.2.1, u.2.2.2.1, u.2.2.2.2.1, u.2.2.2.2.2.1, u.2.2.2.2.2.2.1, u.2.2.2.2.2.2.2.1, u.2.2.2.2.2.2.2.2.1, u.2.2.2.2.2.2.2.2.2.1, u.2.2.2.2.2.2.2.2.2.2)) ++ ((CBc cyI cyZ ht t1 t2 t3 (tr.1, tr.2.1, tr.2.2.1, tr.2.2.2.1, tr.2.2.2.2.1, tr.2.2.2.2.2.1, tr.2.2.2.2.2.2.1, tr.2.2.2.2.2.2.2.1, tr.2.2.2.2.2.2.2.2.1, tr.2.2.2.2.2.2.2.2.2.1, tr.2.2.2.2.2.2.2.2.2.2)) ++ (LAc cyI cyZ hw l1 l2 (la.1, la.2.1, la.2.2.1, la.2.2.2))))) s.heap := hP
  have hD : va_D A ((OBo cyI h b1 b2 hu ht hw wr hm) ++ ((CBc cyI cyZ hu u1 u2 u3 (u.1, u.2.1, u.2.2.1, u.2.2.2.1, u.2.2.2.2.1, u.2.2.2.2.2.1, u.2.2.2.2.2.2.1, u.2.2.2.2.2.2.2.1, u.2.2.2.2.2.2.2.2.1, u.2.2.2.2.2.2.2.2.2.1, u.2.2.2.2.2.2.2.2.2.2)) ++ ((CBc cyI cyZ ht t1 t2 t3 (tr.1, tr.2.1, tr.2.2.1, tr.2.2.2.1, tr.2.2.2.2.1, tr.2.2.2.2.2.1, tr.2.2.2.2.2.2.1, tr.2.2.2.2.2.2.2.1, tr.2.2.2.2.2.2.2.2.1, tr.2.2.2.2.2.2.2.2.2.1, tr.2.2.2.2.2.2.2.2.2.2)) ++ (LAc cyI cyZ hw l1 l2 (la.1, la.2.1, la.2.2.1, la.2.2.2))))) := hD
  have hown : s.vm.findClass RX2 = some m.cls := hown
  have hi_RX0 : ∀ w ∈ wsX00, w ∈ wsX2_requireSet := by decide +kernel
  have hi_RX2 : ∀ w ∈ wsX20, w ∈ wsX2_requireSet := by decide +kernel
  have hf_21 := hts (.fieldLink RX2 21 "OutcastBench" "actual" "LOutcastBench$CacheAndBench;") (by decide +kernel)
  have hf_98 := hts (.fieldLink RX2 98 "OutcastBench$CacheAndBench" "setCount" "I") (by decide +kernel)
  refine lv_iload_n hx hb dX2_requireSet_0 rfl (lv_at hl 1 rfl) ?_
  refine lv_if_lt (x := nI k) (tgt := 15) hx hb dX2_requireSet_1 (by decide) (fun c1 => ?_) (fun c1 => ?_)
  · exact absurd c1 (nI_pos (by have := cb_sc16 hbd; omega))
  · refine lv_iload_n hx hb dX2_requireSet_4 rfl (lv_at hl 1 rfl) ?_
    refine lv_aload_n hx hb dX2_requireSet_5 rfl (lv_at hl 0 rfl) ?_
    refine va_get (D := D) (ci := 2) (v := .ref hu) (C := RX2) (T := TX2) (N := 5) hx hb hts hi_RX2 hown hK hP 0 rfl rfl 2 (by decide) hf_21 (fun _ h9 => h9) rfl dX2_requireSet_6 ?_
    refine va_get (D := D) (ci := 0) (v := .int (nI u.1)) (C := RX0) (T := TX0) (N := 11) hx hb hts hi_RX0 hown hK hP 3 rfl rfl 0 (by decide) hf_98 (fun _ h9 => h9) rfl dX2_requireSet_9 ?_
    refine mq_lt (x := k) (y := u.1) (tgt := 25) (by have := cb_sc16 hbd; omega) (by have := cb_sc16 hbd; omega) hx hb dX2_requireSet_12 (by decide) (fun c2 => ?_) (fun c2 => ?_)
    · exact CtV.ret hQ hx hb hr hlk hK hP hD hS dX2_requireSet_25 rfl
    · exact absurd hk (by omega)
abbrev rmX2_ask : Room := { frames := 3, cells := 0, slots := 0, locals := 68 }
set_option maxRecDepth 100000 in
set_option maxHeartbeats 4000000 in
theorem c_ask (l : Launch) (D : va_G) (cyI cyZ cyJ : ClassId) (h b1 b2 hu u1 u2 u3 ht t1 t2 t3 hw l1 l2 : Nat) (wr hm : Nat → Int32) (u tr : CBu) (la : LAu) (q : Nat) (w : Bool) (hbd : cb_bd u) (hq : q < 256) (hla : la_bd la) : CtV l yX2_ask wsX2_ask rmX2_ask D (T3 cyI cyZ cyJ) [.ref h, .int (nI q), .int (bI w)] ((OBo cyI h b1 b2 hu ht hw wr hm) ++ ((CBc cyI cyZ hu u1 u2 u3 u) ++ ((CBc cyI cyZ ht t1 t2 t3 tr) ++ (LAc cyI cyZ hw l1 l2 la)))) ((OBo cyI h b1 b2 hu ht hw wr hm) ++ ((CBc cyI cyZ hu u1 u2 u3 (cb_acc q w u)) ++ ((CBc cyI cyZ ht t1 t2 t3 tr) ++ (LAc cyI cyZ hw l1 l2 (la_add q w la))))) := by
  refine CtV.of (cc := cX2_ask) (maxL := 3) (ret := none) (lv0 := [(0, .ref h), (1, .int (nI q)), (2, .int (bI w))]) (by decide) rfl (Nat.le_of_ble_eq_true rfl) rfl ?_
  intro p e s m below meth c A ls args Q hx hb hml hr hlk hts hown hK hP hA hD hS hl hQ
  have hP : va_P D vwCl ((OBo cyI h b1 b2 hu ht hw wr hm) ++ ((CBc cyI cyZ hu u1 u2 u3 (u.1, u.2.1, u.2.2.1, u.2.2.2.1, u.2.2.2.2.1, u.2.2.2.2.2.1, u.2.2.2.2.2.2.1, u.2.2.2.2.2.2.2.1, u.2.2.2.2.2.2.2.2.1, u.2.2.2.2.2.2.2.2.2.1, u.2.2.2.2.2.2.2.2.2.2)) ++ ((CBc cyI cyZ ht t1 t2 t3 (tr.1, tr.2.1, tr.2.2.1, tr.2.2.2.1, tr.2.2.2.2.1, tr.2.2.2.2.2.1, tr.2.2.2.2.2.2.1, tr.2.2.2.2.2.2.2.1, tr.2.2.2.2.2.2.2.2.1, tr.2.2.2.2.2.2.2.2.2.1, tr.2.2.2.2.2.2.2.2.2.2)) ++ (LAc cyI cyZ hw l1 l2 (la.1, la.2.1, la.2.2.1, la.2.2.2))))) s.heap := hP
  have hD : va_D A ((OBo cyI h b1 b2 hu ht hw wr hm) ++ ((CBc cyI cyZ hu u1 u2 u3 (u.1, u.2.1, u.2.2.1, u.2.2.2.1, u.2.2.2.2.1, u.2.2.2.2.2.1, u.2.2.2.2.2.2.1, u.2.2.2.2.2.2.2.1, u.2.2.2.2.2.2.2.2.1, u.2.2.2.2.2.2.2.2.2.1, u.2.2.2.2.2.2.2.2.2.2)) ++ ((CBc cyI cyZ ht t1 t2 t3 (tr.1, tr.2.1, tr.2.2.1, tr.2.2.2.1, tr.2.2.2.2.1, tr.2.2.2.2.2.1, tr.2.2.2.2.2.2.1, tr.2.2.2.2.2.2.2.1, tr.2.2.2.2.2.2.2.2.1, tr.2.2.2.2.2.2.2.2.2.1, tr.2.2.2.2.2.2.2.2.2.2)) ++ (LAc cyI cyZ hw l1 l2 (la.1, la.2.1, la.2.2.1, la.2.2.2))))) := hD
  have hown : s.vm.findClass RX2 = some m.cls := hown
  have hi_RX2 : ∀ w ∈ wsX20, w ∈ wsX2_ask := by decide +kernel
  have hf_21 := hts (.fieldLink RX2 21 "OutcastBench" "actual" "LOutcastBench$CacheAndBench;") (by decide +kernel)
  have hf_31 := hts (.fieldLink RX2 31 "OutcastBench" "last" "LOutcastBench$LastAccesses;") (by decide +kernel)
  refine lv_aload_n hx hb dX2_ask_0 rfl (lv_at hl 0 rfl) ?_
  refine va_get (D := D) (ci := 2) (v := .ref hu) (C := RX2) (T := TX2) (N := 5) hx hb hts hi_RX2 hown hK hP 0 rfl rfl 2 (by decide) hf_21 (fun _ h9 => h9) rfl dX2_ask_1 ?_
  refine lv_iload_n hx hb dX2_ask_4 rfl (lv_at hl 1 rfl) ?_
  refine lv_iload_n hx hb dX2_ask_5 rfl (lv_at hl 2 rfl) ?_
  refine CtV.callV (n := 2) (q0 := 0) (ci := 0) (wc := CBc cyI cyZ hu u1 u2 u3 (u.1, u.2.1, u.2.2.1, u.2.2.2.1, u.2.2.2.2.1, u.2.2.2.2.2.1, u.2.2.2.2.2.2.1, u.2.2.2.2.2.2.2.1, u.2.2.2.2.2.2.2.2.1, u.2.2.2.2.2.2.2.2.2.1, u.2.2.2.2.2.2.2.2.2.2)) (wr := (OBo cyI h b1 b2 hu ht hw wr hm) ++ ((CBc cyI cyZ ht t1 t2 t3 (tr.1, tr.2.1, tr.2.2.1, tr.2.2.2.1, tr.2.2.2.2.1, tr.2.2.2.2.2.1, tr.2.2.2.2.2.2.1, tr.2.2.2.2.2.2.2.1, tr.2.2.2.2.2.2.2.2.1, tr.2.2.2.2.2.2.2.2.2.1, tr.2.2.2.2.2.2.2.2.2.2)) ++ (LAc cyI cyZ hw l1 l2 (la.1, la.2.1, la.2.2.1, la.2.2.2)))) (w1 := CBc cyI cyZ hu u1 u2 u3 ((cb_acc q w u).1, (cb_acc q w u).2.1, (cb_acc q w u).2.2.1, (cb_acc q w u).2.2.2.1, (cb_acc q w u).2.2.2.2.1, (cb_acc q w u).2.2.2.2.2.1, (cb_acc q w u).2.2.2.2.2.2.1, (cb_acc q w u).2.2.2.2.2.2.2.1, (cb_acc q w u).2.2.2.2.2.2.2.2.1, (cb_acc q w u).2.2.2.2.2.2.2.2.2.1, (cb_acc q w u).2.2.2.2.2.2.2.2.2.2)) (ws' := (OBo cyI h b1 b2 hu ht hw wr hm) ++ ((CBc cyI cyZ hu u1 u2 u3 ((cb_acc q w u).1, (cb_acc q w u).2.1, (cb_acc q w u).2.2.1, (cb_acc q w u).2.2.2.1, (cb_acc q w u).2.2.2.2.1, (cb_acc q w u).2.2.2.2.2.1, (cb_acc q w u).2.2.2.2.2.2.1, (cb_acc q w u).2.2.2.2.2.2.2.1, (cb_acc q w u).2.2.2.2.2.2.2.2.1, (cb_acc q w u).2.2.2.2.2.2.2.2.2.1, (cb_acc q w u).2.2.2.2.2.2.2.2.2.2)) ++ ((CBc cyI cyZ ht t1 t2 t3 (tr.1, tr.2.1, tr.2.2.1, tr.2.2.2.1, tr.2.2.2.2.1, tr.2.2.2.2.2.1, tr.2.2.2.2.2.2.1, tr.2.2.2.2.2.2.2.1, tr.2.2.2.2.2.2.2.2.1, tr.2.2.2.2.2.2.2.2.2.1, tr.2.2.2.2.2.2.2.2.2.2)) ++ (LAc cyI cyZ hw l1 l2 (la.1, la.2.1, la.2.2.1, la.2.2.2))))) (isC := [3, 4, 5, 6]) (isR := [0, 1, 2, 7, 8, 9, 10, 11, 12, 13]) (ps := [0, 1, 2, 10, 11, 12, 13, 3, 4, 5, 6, 7, 8, 9]) (As := [.int (nI q), .int (bI w)]) (rest := []) (c_accU l D cyI cyZ cyJ hu u1 u2 u3 u q w hbd hq) ⟨hx, hb, hown, hts⟩ gX2_ask_X0_access rfl ⟨rfl, by decide, by decide, by decide +kernel⟩ ⟨Nat.le_of_ble_eq_true rfl, Nat.le_of_ble_eq_true rfl⟩ ⟨rfl, rfl⟩ hml hl.1 hK hP hD hS hA ⟨rfl, rfl, rfl, rfl, rfl, rfl, rfl⟩ rfl ⟨rfl, rfl⟩ rfl rfl (Nat.le_of_ble_eq_true rfl) ⟨Nat.zero_le _, Nat.zero_le _⟩ dX2_ask_6 (fun H locs hP hD hS => ?_)
  refine lv_aload_n hx hb dX2_ask_9 rfl (lv_at hl 0 rfl) ?_
  refine va_get (D := D) (ci := 2) (v := .ref hw) (C := RX2) (T := TX2) (N := 5) hx hb hts hi_RX2 hown hK hP 0 rfl rfl 4 (by decide) hf_31 (fun _ h9 => h9) rfl dX2_ask_10 ?_
  refine lv_iload_n hx hb dX2_ask_13 rfl (lv_at hl 1 rfl) ?_
  refine lv_iload_n hx hb dX2_ask_14 rfl (lv_at hl 2 rfl) ?_
  refine CtV.callV (n := 2) (q0 := 0) (ci := 1) (wc := LAc cyI cyZ hw l1 l2 (la.1, la.2.1, la.2.2.1, la.2.2.2)) (wr := (OBo cyI h b1 b2 hu ht hw wr hm) ++ ((CBc cyI cyZ hu u1 u2 u3 ((cb_acc q w u).1, (cb_acc q w u).2.1, (cb_acc q w u).2.2.1, (cb_acc q w u).2.2.2.1, (cb_acc q w u).2.2.2.2.1, (cb_acc q w u).2.2.2.2.2.1, (cb_acc q w u).2.2.2.2.2.2.1, (cb_acc q w u).2.2.2.2.2.2.2.1, (cb_acc q w u).2.2.2.2.2.2.2.2.1, (cb_acc q w u).2.2.2.2.2.2.2.2.2.1, (cb_acc q w u).2.2.2.2.2.2.2.2.2.2)) ++ (CBc cyI cyZ ht t1 t2 t3 (tr.1, tr.2.1, tr.2.2.1, tr.2.2.2.1, tr.2.2.2.2.1, tr.2.2.2.2.2.1, tr.2.2.2.2.2.2.1, tr.2.2.2.2.2.2.2.1, tr.2.2.2.2.2.2.2.2.1, tr.2.2.2.2.2.2.2.2.2.1, tr.2.2.2.2.2.2.2.2.2.2)))) (w1 := LAc cyI cyZ hw l1 l2 ((la_add q w la).1, (la_add q w la).2.1, (la_add q w la).2.2.1, (la_add q w la).2.2.2)) (ws' := (OBo cyI h b1 b2 hu ht hw wr hm) ++ ((CBc cyI cyZ hu u1 u2 u3 ((cb_acc q w u).1, (cb_acc q w u).2.1, (cb_acc q w u).2.2.1, (cb_acc q w u).2.2.2.1, (cb_acc q w u).2.2.2.2.1, (cb_acc q w u).2.2.2.2.2.1, (cb_acc q w u).2.2.2.2.2.2.1, (cb_acc q w u).2.2.2.2.2.2.2.1, (cb_acc q w u).2.2.2.2.2.2.2.2.1, (cb_acc q w u).2.2.2.2.2.2.2.2.2.1, (cb_acc q w u).2.2.2.2.2.2.2.2.2.2)) ++ ((CBc cyI cyZ ht t1 t2 t3 (tr.1, tr.2.1, tr.2.2.1, tr.2.2.2.1, tr.2.2.2.2.1, tr.2.2.2.2.2.1, tr.2.2.2.2.2.2.1, tr.2.2.2.2.2.2.2.1, tr.2.2.2.2.2.2.2.2.1, tr.2.2.2.2.2.2.2.2.2.1, tr.2.2.2.2.2.2.2.2.2.2)) ++ (LAc cyI cyZ hw l1 l2 ((la_add q w la).1, (la_add q w la).2.1, (la_add q w la).2.2.1, (la_add q w la).2.2.2))))) (isC := [11, 12, 13]) (isR := [0, 1, 2, 3, 4, 5, 6, 7, 8, 9, 10]) (ps := [0, 1, 2, 3, 4, 5, 6, 7, 8, 9, 10, 11, 12, 13]) (As := [.int (nI q), .int (bI w)]) (rest := []) (c_addU l D cyI cyZ cyJ hw l1 l2 la q w hla) ⟨hx, hb, hown, hts⟩ gX2_ask_X1_add rfl ⟨rfl, by decide, by decide, by decide +kernel⟩ ⟨Nat.le_of_ble_eq_true rfl, Nat.le_of_ble_eq_true rfl⟩ ⟨rfl, rfl⟩ hml hl.1 hK hP hD hS hA ⟨rfl, rfl, rfl, rfl, rfl, rfl, rfl⟩ rfl ⟨rfl, rfl⟩ rfl rfl (Nat.le_of_ble_eq_true rfl) ⟨Nat.zero_le _, Nat.zero_le _⟩ dX2_ask_15 (fun H locs hP hD hS => ?_)
  exact CtV.ret hQ hx hb hr hlk hK hP hD hS dX2_ask_18 rfl
abbrev rmX2_keepHomeWords : Room := { frames := 1, cells := 0, slots := 0, locals := 60 }
set_option maxRecDepth 100000 in
set_option maxHeartbeats 4000000 in
theorem c_keep (l : Launch) (D : va_G) (cyI cyZ cyJ : ClassId) (h b1 b2 hu ht hw : Nat) (wr hm : Nat → Int32) (q : Nat) (hq : q < 256) : CtV l yX2_keepHomeWords wsX2_keepHomeWords rmX2_keepHomeWords D (T3 cyI cyZ cyJ) [.ref h, .int (nI q)] (OBo cyI h b1 b2 hu ht hw wr hm) (OBo cyI h b1 b2 hu ht hw wr (cpy hm wr (q * 4) (q * 4 + 4))) := by
  refine CtV.of (cc := cX2_keepHomeWords) (maxL := 3) (ret := none) (lv0 := [(0, .ref h), (1, .int (nI q))]) (by decide) rfl (Nat.le_of_ble_eq_true rfl) rfl ?_
  intro p e s m below meth c A ls args Q hx hb hml hr hlk hts hown hK hP hA hD hS hl hQ
  have hown : s.vm.findClass RX2 = some m.cls := hown
  have hi_RX2 : ∀ w ∈ wsX20, w ∈ wsX2_keepHomeWords := by decide +kernel
  have hf_9 := hts (.fieldLink RX2 9 "OutcastBench" "written" "[I") (by decide +kernel)
  have hf_13 := hts (.fieldLink RX2 13 "OutcastBench" "home" "[I") (by decide +kernel)
  refine lv_iload_n hx hb dX2_keepHomeWords_0 rfl (lv_at hl 1 rfl) ?_
  refine lv_iconst (v := nI 4) hx hb dX2_keepHomeWords_1 (by decide) ?_
  refine mq_imul (x := q) (y := 4) hx hb dX2_keepHomeWords_2 ?_
  refine lv_istore_n (lv' := [(2, .int (nI (q * 4))), (0, .ref h), (1, .int (nI q))]) hx hb dX2_keepHomeWords_3 rfl hl (by decide) rfl (fun ls hl => ?_)
  refine lv_aload_n hx hb dX2_keepHomeWords_4 rfl (lv_at hl 1 rfl) ?_
  refine va_get (D := D) (ci := 2) (v := .ref b1) (C := RX2) (T := TX2) (N := 5) hx hb hts hi_RX2 hown hK hP 0 rfl rfl 0 (by decide) hf_9 (fun _ h9 => h9) rfl dX2_keepHomeWords_5 ?_
  refine lv_iload_n hx hb dX2_keepHomeWords_8 rfl (lv_at hl 0 rfl) ?_
  refine lv_aload_n hx hb dX2_keepHomeWords_9 rfl (lv_at hl 1 rfl) ?_
  refine va_get (D := D) (ci := 2) (v := .ref b2) (C := RX2) (T := TX2) (N := 5) hx hb hts hi_RX2 hown hK hP 0 rfl rfl 1 (by decide) hf_13 (fun _ h9 => h9) rfl dX2_keepHomeWords_10 ?_
  refine lv_iload_n hx hb dX2_keepHomeWords_13 rfl (lv_at hl 0 rfl) ?_
  refine lv_iconst (v := nI 4) hx hb dX2_keepHomeWords_14 (by decide) ?_
  refine va_copyi (ty := .int) hx hb (hml.trans hl.1.symm) hown (hts (.methodLink RX2 145 arraycopyName) (by decide +kernel)) (hts (.native arraycopyName) (by decide +kernel)) (hts (.static arraycopyName) (by decide +kernel)) (hts (.initialized "java/lang/System") (by decide +kernel)) hK hP hD hS 1 2 0 0 rfl rfl rfl rfl rfl (nI_pos (by omega)) (nI_pos (by omega)) (nI_pos (by decide)) (by rw [nI_clamp (by omega), nI_clamp (by omega)]; omega) (by rw [nI_clamp (by omega), nI_clamp (by omega)]; omega) (fun _ _ => rfl) (Nat.le_of_ble_eq_true rfl) (Nat.le_of_ble_eq_true rfl) dX2_keepHomeWords_15 (fun H locs hP hD hS => ?_)
  obtain ⟨hP, hD⟩ := mq_row (q0 := 2) (g := cpy hm wr (q * 4) (q * 4 + 4)) (ws' := OBo cyI h b1 b2 hu ht hw wr (cpy hm wr (q * 4) (q * 4 + 4))) hP hD rfl (fun k hk => cpy_va rfl rfl rfl (by omega)) rfl
  exact CtV.ret hQ hx hb hr hlk hK hP hD hS dX2_keepHomeWords_18 rfl
abbrev rmX2_read : Room := { frames := 4, cells := 0, slots := 0, locals := 90 }
set_option maxRecDepth 100000 in
set_option maxHeartbeats 4000000 in
theorem c_read (l : Launch) (D : va_G) (cyI cyZ cyJ : ClassId) (h b1 b2 hu u1 u2 u3 ht t1 t2 t3 hw l1 l2 : Nat) (wr hm : Nat → Int32) (u tr : CBu) (la : LAu) (a : Nat) (hbd : cb_bd u) (hla : la_bd la) (ha : a < 1024) : CtI l yX2_read wsX2_read rmX2_read D (T3 cyI cyZ cyJ) [.ref h, .int (nI a)] ((OBo cyI h b1 b2 hu ht hw wr hm) ++ ((CBc cyI cyZ hu u1 u2 u3 u) ++ ((CBc cyI cyZ ht t1 t2 t3 tr) ++ (LAc cyI cyZ hw l1 l2 la)))) (wr a) ((OBo cyI h b1 b2 hu ht hw wr hm) ++ ((CBc cyI cyZ hu u1 u2 u3 (cb_acc (a / 4) false u)) ++ ((CBc cyI cyZ ht t1 t2 t3 tr) ++ (LAc cyI cyZ hw l1 l2 (la_add (a / 4) false la))))) := by
  refine CtI.of (cc := cX2_read) (maxL := 2) (ret := (some .int)) (lv0 := [(0, .ref h), (1, .int (nI a))]) (by decide) rfl (Nat.le_of_ble_eq_true rfl) rfl ?_
  intro p e s m below meth c A ls args Q hx hb hml hr hlk hts hown hK hP hA hD hS hl hQ
  have hP : va_P D vwCl ((OBo cyI h b1 b2 hu ht hw wr hm) ++ ((CBc cyI cyZ hu u1 u2 u3 (u.1, u.2.1, u.2.2.1, u.2.2.2.1, u.2.2.2.2.1, u.2.2.2.2.2.1, u.2.2.2.2.2.2.1, u.2.2.2.2.2.2.2.1, u.2.2.2.2.2.2.2.2.1, u.2.2.2.2.2.2.2.2.2.1, u.2.2.2.2.2.2.2.2.2.2)) ++ ((CBc cyI cyZ ht t1 t2 t3 (tr.1, tr.2.1, tr.2.2.1, tr.2.2.2.1, tr.2.2.2.2.1, tr.2.2.2.2.2.1, tr.2.2.2.2.2.2.1, tr.2.2.2.2.2.2.2.1, tr.2.2.2.2.2.2.2.2.1, tr.2.2.2.2.2.2.2.2.2.1, tr.2.2.2.2.2.2.2.2.2.2)) ++ (LAc cyI cyZ hw l1 l2 (la.1, la.2.1, la.2.2.1, la.2.2.2))))) s.heap := hP
  have hD : va_D A ((OBo cyI h b1 b2 hu ht hw wr hm) ++ ((CBc cyI cyZ hu u1 u2 u3 (u.1, u.2.1, u.2.2.1, u.2.2.2.1, u.2.2.2.2.1, u.2.2.2.2.2.1, u.2.2.2.2.2.2.1, u.2.2.2.2.2.2.2.1, u.2.2.2.2.2.2.2.2.1, u.2.2.2.2.2.2.2.2.2.1, u.2.2.2.2.2.2.2.2.2.2)) ++ ((CBc cyI cyZ ht t1 t2 t3 (tr.1, tr.2.1, tr.2.2.1, tr.2.2.2.1, tr.2.2.2.2.1, tr.2.2.2.2.2.1, tr.2.2.2.2.2.2.1, tr.2.2.2.2.2.2.2.1, tr.2.2.2.2.2.2.2.2.1, tr.2.2.2.2.2.2.2.2.2.1, tr.2.2.2.2.2.2.2.2.2.2)) ++ (LAc cyI cyZ hw l1 l2 (la.1, la.2.1, la.2.2.1, la.2.2.2))))) := hD
  have hown : s.vm.findClass RX2 = some m.cls := hown
  have hi_RX2 : ∀ w ∈ wsX20, w ∈ wsX2_read := by decide +kernel
  have hf_9 := hts (.fieldLink RX2 9 "OutcastBench" "written" "[I") (by decide +kernel)
  refine lv_iload_n hx hb dX2_read_0 rfl (lv_at hl 1 rfl) ?_
  refine CtV.callS (n := 1) (wc := ([] : va_W)) (wr := (OBo cyI h b1 b2 hu ht hw wr hm) ++ ((CBc cyI cyZ hu u1 u2 u3 (u.1, u.2.1, u.2.2.1, u.2.2.2.1, u.2.2.2.2.1, u.2.2.2.2.2.1, u.2.2.2.2.2.2.1, u.2.2.2.2.2.2.2.1, u.2.2.2.2.2.2.2.2.1, u.2.2.2.2.2.2.2.2.2.1, u.2.2.2.2.2.2.2.2.2.2)) ++ ((CBc cyI cyZ ht t1 t2 t3 (tr.1, tr.2.1, tr.2.2.1, tr.2.2.2.1, tr.2.2.2.2.1, tr.2.2.2.2.2.1, tr.2.2.2.2.2.2.1, tr.2.2.2.2.2.2.2.1, tr.2.2.2.2.2.2.2.2.1, tr.2.2.2.2.2.2.2.2.2.1, tr.2.2.2.2.2.2.2.2.2.2)) ++ (LAc cyI cyZ hw l1 l2 (la.1, la.2.1, la.2.2.1, la.2.2.2))))) (w1 := ([] : va_W)) (ws' := (OBo cyI h b1 b2 hu ht hw wr hm) ++ ((CBc cyI cyZ hu u1 u2 u3 (u.1, u.2.1, u.2.2.1, u.2.2.2.1, u.2.2.2.2.1, u.2.2.2.2.2.1, u.2.2.2.2.2.2.1, u.2.2.2.2.2.2.2.1, u.2.2.2.2.2.2.2.2.1, u.2.2.2.2.2.2.2.2.2.1, u.2.2.2.2.2.2.2.2.2.2)) ++ ((CBc cyI cyZ ht t1 t2 t3 (tr.1, tr.2.1, tr.2.2.1, tr.2.2.2.1, tr.2.2.2.2.1, tr.2.2.2.2.2.1, tr.2.2.2.2.2.2.1, tr.2.2.2.2.2.2.2.1, tr.2.2.2.2.2.2.2.2.1, tr.2.2.2.2.2.2.2.2.2.1, tr.2.2.2.2.2.2.2.2.2.2)) ++ (LAc cyI cyZ hw l1 l2 (la.1, la.2.1, la.2.2.1, la.2.2.2))))) (isC := []) (isR := [0, 1, 2, 3, 4, 5, 6, 7, 8, 9, 10, 11, 12, 13]) (ps := [0, 1, 2, 3, 4, 5, 6, 7, 8, 9, 10, 11, 12, 13]) (As := [.int (nI a)]) (rest := []) (c_requireWord l D cyI cyZ cyJ a ha) ⟨hx, hb, hown, hts⟩ gX2_read_X2_requireWord rfl ⟨by decide, by decide, by decide +kernel⟩ ⟨Nat.le_of_ble_eq_true rfl, Nat.le_of_ble_eq_true rfl⟩ ⟨rfl, rfl⟩ hml hl.1 hK hP hD hS hA ⟨rfl, rfl, rfl, rfl, rfl, rfl, rfl⟩ rfl rfl (Nat.le_of_ble_eq_true rfl) ⟨Nat.zero_le _, Nat.zero_le _⟩ dX2_read_1 (fun H locs hP hD hS => ?_)
  refine lv_aload_n hx hb dX2_read_4 rfl (lv_at hl 0 rfl) ?_
  refine lv_iload_n hx hb dX2_read_5 rfl (lv_at hl 1 rfl) ?_
  refine CtI.callS (n := 1) (wc := ([] : va_W)) (wr := (OBo cyI h b1 b2 hu ht hw wr hm) ++ ((CBc cyI cyZ hu u1 u2 u3 (u.1, u.2.1, u.2.2.1, u.2.2.2.1, u.2.2.2.2.1, u.2.2.2.2.2.1, u.2.2.2.2.2.2.1, u.2.2.2.2.2.2.2.1, u.2.2.2.2.2.2.2.2.1, u.2.2.2.2.2.2.2.2.2.1, u.2.2.2.2.2.2.2.2.2.2)) ++ ((CBc cyI cyZ ht t1 t2 t3 (tr.1, tr.2.1, tr.2.2.1, tr.2.2.2.1, tr.2.2.2.2.1, tr.2.2.2.2.2.1, tr.2.2.2.2.2.2.1, tr.2.2.2.2.2.2.2.1, tr.2.2.2.2.2.2.2.2.1, tr.2.2.2.2.2.2.2.2.2.1, tr.2.2.2.2.2.2.2.2.2.2)) ++ (LAc cyI cyZ hw l1 l2 (la.1, la.2.1, la.2.2.1, la.2.2.2))))) (w1 := ([] : va_W)) (ws' := (OBo cyI h b1 b2 hu ht hw wr hm) ++ ((CBc cyI cyZ hu u1 u2 u3 (u.1, u.2.1, u.2.2.1, u.2.2.2.1, u.2.2.2.2.1, u.2.2.2.2.2.1, u.2.2.2.2.2.2.1, u.2.2.2.2.2.2.2.1, u.2.2.2.2.2.2.2.2.1, u.2.2.2.2.2.2.2.2.2.1, u.2.2.2.2.2.2.2.2.2.2)) ++ ((CBc cyI cyZ ht t1 t2 t3 (tr.1, tr.2.1, tr.2.2.1, tr.2.2.2.1, tr.2.2.2.2.1, tr.2.2.2.2.2.1, tr.2.2.2.2.2.2.1, tr.2.2.2.2.2.2.2.1, tr.2.2.2.2.2.2.2.2.1, tr.2.2.2.2.2.2.2.2.2.1, tr.2.2.2.2.2.2.2.2.2.2)) ++ (LAc cyI cyZ hw l1 l2 (la.1, la.2.1, la.2.2.1, la.2.2.2))))) (isC := []) (isR := [0, 1, 2, 3, 4, 5, 6, 7, 8, 9, 10, 11, 12, 13]) (ps := [0, 1, 2, 3, 4, 5, 6, 7, 8, 9, 10, 11, 12, 13]) (As := [.int (nI a)]) (rest := [.ref h]) (c_lineOf l D cyI cyZ cyJ a (by omega)) ⟨hx, hb, hown, hts⟩ gX2_read_X2_lineOf rfl ⟨by decide, by decide, by decide +kernel⟩ ⟨Nat.le_of_ble_eq_true rfl, Nat.le_of_ble_eq_true rfl⟩ ⟨rfl, rfl⟩ hml hl.1 hK hP hD hS hA ⟨rfl, rfl, rfl, rfl, rfl, rfl, rfl⟩ rfl rfl (Nat.le_of_ble_eq_true rfl) ⟨Nat.zero_le _, Nat.zero_le _⟩ dX2_read_6 (fun H locs hP hD hS => ?_)
  refine lv_iconst (v := nI 0) hx hb dX2_read_9 (by decide) ?_
  refine CtV.callV (n := 2) (q0 := 0) (ci := 2) (wc := (OBo cyI h b1 b2 hu ht hw wr hm) ++ ((CBc cyI cyZ hu u1 u2 u3 (u.1, u.2.1, u.2.2.1, u.2.2.2.1, u.2.2.2.2.1, u.2.2.2.2.2.1, u.2.2.2.2.2.2.1, u.2.2.2.2.2.2.2.1, u.2.2.2.2.2.2.2.2.1, u.2.2.2.2.2.2.2.2.2.1, u.2.2.2.2.2.2.2.2.2.2)) ++ ((CBc cyI cyZ ht t1 t2 t3 (tr.1, tr.2.1, tr.2.2.1, tr.2.2.2.1, tr.2.2.2.2.1, tr.2.2.2.2.2.1, tr.2.2.2.2.2.2.1, tr.2.2.2.2.2.2.2.1, tr.2.2.2.2.2.2.2.2.1, tr.2.2.2.2.2.2.2.2.2.1, tr.2.2.2.2.2.2.2.2.2.2)) ++ (LAc cyI cyZ hw l1 l2 (la.1, la.2.1, la.2.2.1, la.2.2.2))))) (wr := ([] : va_W)) (w1 := (OBo cyI h b1 b2 hu ht hw wr hm) ++ ((CBc cyI cyZ hu u1 u2 u3 ((cb_acc (a / 4) false u).1, (cb_acc (a / 4) false u).2.1, (cb_acc (a / 4) false u).2.2.1, (cb_acc (a / 4) false u).2.2.2.1, (cb_acc (a / 4) false u).2.2.2.2.1, (cb_acc (a / 4) false u).2.2.2.2.2.1, (cb_acc (a / 4) false u).2.2.2.2.2.2.1, (cb_acc (a / 4) false u).2.2.2.2.2.2.2.1, (cb_acc (a / 4) false u).2.2.2.2.2.2.2.2.1, (cb_acc (a / 4) false u).2.2.2.2.2.2.2.2.2.1, (cb_acc (a / 4) false u).2.2.2.2.2.2.2.2.2.2)) ++ ((CBc cyI cyZ ht t1 t2 t3 (tr.1, tr.2.1, tr.2.2.1, tr.2.2.2.1, tr.2.2.2.2.1, tr.2.2.2.2.2.1, tr.2.2.2.2.2.2.1, tr.2.2.2.2.2.2.2.1, tr.2.2.2.2.2.2.2.2.1, tr.2.2.2.2.2.2.2.2.2.1, tr.2.2.2.2.2.2.2.2.2.2)) ++ (LAc cyI cyZ hw l1 l2 ((la_add (a / 4) false la).1, (la_add (a / 4) false la).2.1, (la_add (a / 4) false la).2.2.1, (la_add (a / 4) false la).2.2.2))))) (ws' := (OBo cyI h b1 b2 hu ht hw wr hm) ++ ((CBc cyI cyZ hu u1 u2 u3 ((cb_acc (a / 4) false u).1, (cb_acc (a / 4) false u).2.1, (cb_acc (a / 4) false u).2.2.1, (cb_acc (a / 4) false u).2.2.2.1, (cb_acc (a / 4) false u).2.2.2.2.1, (cb_acc (a / 4) false u).2.2.2.2.2.1, (cb_acc (a / 4) false u).2.2.2.2.2.2.1, (cb_acc (a / 4) false u).2.2.2.2.2.2.2.1, (cb_acc (a / 4) false u).2.2.2.2.2.2.2.2.1, (cb_acc (a / 4) false u).2.2.2.2.2.2.2.2.2.1, (cb_acc (a / 4) false u).2.2.2.2.2.2.2.2.2.2)) ++ ((CBc cyI cyZ ht t1 t2 t3 (tr.1, tr.2.1, tr.2.2.1, tr.2.2.2.1, tr.2.2.2.2.1, tr.2.2.2.2.2.1, tr.2.2.2.2.2.2.1, tr.2.2.2.2.2.2.2.1, tr.2.2.2.2.2.2.2.2.1, tr.2.2.2.2.2.2.2.2.2.1, tr.2.2.2.2.2.2.2.2.2.2)) ++ (LAc cyI cyZ hw l1 l2 ((la_add (a / 4) false la).1, (la_add (a / 4) false la).2.1, (la_add (a / 4) false la).2.2.1, (la_add (a / 4) false la).2.2.2))))) (isC := [0, 1, 2, 3, 4, 5, 6, 7, 8, 9, 10, 11, 12, 13]) (isR := []) (ps := [0, 1, 2, 3, 4, 5, 6, 7, 8, 9, 10, 11, 12, 13]) (As := [.int (nI (a / 4)), .int (bI false)]) (rest := []) (c_ask l D cyI cyZ cyJ h b1 b2 hu u1 u2 u3 ht t1 t2 t3 hw l1 l2 wr hm u tr la (a / 4) false hbd (by omega) hla) ⟨hx, hb, hown, hts⟩ gX2_read_X2_ask rfl ⟨rfl, by decide, by decide, by decide +kernel⟩ ⟨Nat.le_of_ble_eq_true rfl, Nat.le_of_ble_eq_true rfl⟩ ⟨rfl, rfl⟩ hml hl.1 hK hP hD hS hA ⟨rfl, rfl, rfl, rfl, rfl, rfl, rfl⟩ rfl ⟨rfl, rfl⟩ rfl rfl (Nat.le_of_ble_eq_true rfl) ⟨Nat.zero_le _, Nat.zero_le _⟩ dX2_read_10 (fun H locs hP hD hS => ?_)
  refine lv_aload_n hx hb dX2_read_13 rfl (lv_at hl 0 rfl) ?_
  refine va_get (D := D) (ci := 2) (v := .ref b1) (C := RX2) (T := TX2) (N := 5) hx hb hts hi_RX2 hown hK hP 0 rfl rfl 0 (by decide) hf_9 (fun _ h9 => h9) rfl dX2_read_14 ?_
  refine lv_iload_n hx hb dX2_read_17 rfl (lv_at hl 1 rfl) ?_
  refine mq_ldR (k := a) wr hx hb hK hP 1 0 rfl rfl (by omega) (Nat.le_of_ble_eq_true rfl) dX2_read_18 ?_
  exact CtI.ret hQ hx hb hr hlk hK hP hD hS dX2_read_19 rfl rfl
abbrev rmX2_write : Room := { frames := 4, cells := 0, slots := 0, locals := 90 }
set_option maxRecDepth 100000 in
set_option maxHeartbeats 4000000 in
theorem c_write (l : Launch) (D : va_G) (cyI cyZ cyJ : ClassId) (h b1 b2 hu u1 u2 u3 ht t1 t2 t3 hw l1 l2 : Nat) (wr hm : Nat → Int32) (u tr : CBu) (la : LAu) (a : Nat) (v : Int32) (hbd : cb_bd u) (hla : la_bd la) (ha : a < 1024) : CtI l yX2_write wsX2_write rmX2_write D (T3 cyI cyZ cyJ) [.ref h, .int (nI a), .int v] ((OBo cyI h b1 b2 hu ht hw wr hm) ++ ((CBc cyI cyZ hu u1 u2 u3 u) ++ ((CBc cyI cyZ ht t1 t2 t3 tr) ++ (LAc cyI cyZ hw l1 l2 la)))) (wr a) ((OBo cyI h b1 b2 hu ht hw (ru wr a v) (if cb_dt u (a / 4) = true then hm else cpy hm wr (a / 4 * 4) (a / 4 * 4 + 4))) ++ ((CBc cyI cyZ hu u1 u2 u3 (cb_acc (a / 4) true u)) ++ ((CBc cyI cyZ ht t1 t2 t3 tr) ++ (LAc cyI cyZ hw l1 l2 (la_add (a / 4) true la))))) := by
  refine CtI.of (cc := cX2_write) (maxL := 5) (ret := (some .int)) (lv0 := [(0, .ref h), (1, .int (nI a)), (2, .int v)]) (by decide) rfl (Nat.le_of_ble_eq_true rfl) rfl ?_
  intro p e s m below meth c A ls args Q hx hb hml hr hlk hts hown hK hP hA hD hS hl hQ
  have hP : va_P D vwCl ((OBo cyI h b1 b2 hu ht hw wr hm) ++ ((CBc cyI cyZ hu u1 u2 u3 (u.1, u.2.1, u.2.2.1, u.2.2.2.1, u.2.2.2.2.1, u.2.2.2.2.2.1, u.2.2.2.2.2.2.1, u.2.2.2.2.2.2.2.1, u.2.2.2.2.2.2.2.2.1, u.2.2.2.2.2.2.2.2.2.1, u.2.2.2.2.2.2.2.2.2.2)) ++ ((CBc cyI cyZ ht t1 t2 t3 (tr.1, tr.2.1, tr.2.2.1, tr.2.2.2.1, tr.2.2.2.2.1, tr.2.2.2.2.2.1, tr.2.2.2.2.2.2.1, tr.2.2.2.2.2.2.2.1, tr.2.2.2.2.2.2.2.2.1, tr.2.2.2.2.2.2.2.2.2.1, tr.2.2.2.2.2.2.2.2.2.2)) ++ (LAc cyI cyZ hw l1 l2 (la.1, la.2.1, la.2.2.1, la.2.2.2))))) s.heap := hP
  have hD : va_D A ((OBo cyI h b1 b2 hu ht hw wr hm) ++ ((CBc cyI cyZ hu u1 u2 u3 (u.1, u.2.1, u.2.2.1, u.2.2.2.1, u.2.2.2.2.1, u.2.2.2.2.2.1, u.2.2.2.2.2.2.1, u.2.2.2.2.2.2.2.1, u.2.2.2.2.2.2.2.2.1, u.2.2.2.2.2.2.2.2.2.1, u.2.2.2.2.2.2.2.2.2.2)) ++ ((CBc cyI cyZ ht t1 t2 t3 (tr.1, tr.2.1, tr.2.2.1, tr.2.2.2.1, tr.2.2.2.2.1, tr.2.2.2.2.2.1, tr.2.2.2.2.2.2.1, tr.2.2.2.2.2.2.2.1, tr.2.2.2.2.2.2.2.2.1, tr.2.2.2.2.2.2.2.2.2.1, tr.2.2.2.2.2.2.2.2.2.2)) ++ (LAc cyI cyZ hw l1 l2 (la.1, la.2.1, la.2.2.1, la.2.2.2))))) := hD
  have hown : s.vm.findClass RX2 = some m.cls := hown
  have hi_RX0 : ∀ w ∈ wsX00, w ∈ wsX2_write := by decide +kernel
  have hi_RX2 : ∀ w ∈ wsX20, w ∈ wsX2_write := by decide +kernel
  have hf_9 := hts (.fieldLink RX2 9 "OutcastBench" "written" "[I") (by decide +kernel)
  have hf_21 := hts (.fieldLink RX2 21 "OutcastBench" "actual" "LOutcastBench$CacheAndBench;") (by decide +kernel)
  have hf_47 := hts (.fieldLink RX2 47 "OutcastBench$CacheAndBench" "dirtyLines" "[Z") (by decide +kernel)
  refine lv_iload_n hx hb dX2_write_0 rfl (lv_at hl 1 rfl) ?_
  refine CtV.callS (n := 1) (wc := ([] : va_W)) (wr := (OBo cyI h b1 b2 hu ht hw wr hm) ++ ((CBc cyI cyZ hu u1 u2 u3 (u.1, u.2.1, u.2.2.1, u.2.2.2.1, u.2.2.2.2.1, u.2.2.2.2.2.1, u.2.2.2.2.2.2.1, u.2.2.2.2.2.2.2.1, u.2.2.2.2.2.2.2.2.1, u.2.2.2.2.2.2.2.2.2.1, u.2.2.2.2.2.2.2.2.2.2)) ++ ((CBc cyI cyZ ht t1 t2 t3 (tr.1, tr.2.1, tr.2.2.1, tr.2.2.2.1, tr.2.2.2.2.1, tr.2.2.2.2.2.1, tr.2.2.2.2.2.2.1, tr.2.2.2.2.2.2.2.1, tr.2.2.2.2.2.2.2.2.1, tr.2.2.2.2.2.2.2.2.2.1, tr.2.2.2.2.2.2.2.2.2.2)) ++ (LAc cyI cyZ hw l1 l2 (la.1, la.2.1, la.2.2.1, la.2.2.2))))) (w1 := ([] : va_W)) (ws' := (OBo cyI h b1 b2 hu ht hw wr hm) ++ ((CBc cyI cyZ hu u1 u2 u3 (u.1, u.2.1, u.2.2.1, u.2.2.2.1, u.2.2.2.2.1, u.2.2.2.2.2.1, u.2.2.2.2.2.2.1, u.2.2.2.2.2.2.2.1, u.2.2.2.2.2.2.2.2.1, u.2.2.2.2.2.2.2.2.2.1, u.2.2.2.2.2.2.2.2.2.2)) ++ ((CBc cyI cyZ ht t1 t2 t3 (tr.1, tr.2.1, tr.2.2.1, tr.2.2.2.1, tr.2.2.2.2.1, tr.2.2.2.2.2.1, tr.2.2.2.2.2.2.1, tr.2.2.2.2.2.2.2.1, tr.2.2.2.2.2.2.2.2.1, tr.2.2.2.2.2.2.2.2.2.1, tr.2.2.2.2.2.2.2.2.2.2)) ++ (LAc cyI cyZ hw l1 l2 (la.1, la.2.1, la.2.2.1, la.2.2.2))))) (isC := []) (isR := [0, 1, 2, 3, 4, 5, 6, 7, 8, 9, 10, 11, 12, 13]) (ps := [0, 1, 2, 3, 4, 5, 6, 7, 8, 9, 10, 11, 12, 13]) (As := [.int (nI a)]) (rest := []) (c_requireWord l D cyI cyZ cyJ a ha) ⟨hx, hb, hown, hts⟩ gX2_write_X2_requireWord rfl ⟨by decide, by decide, by decide +kernel⟩ ⟨Nat.le_of_ble_eq_true rfl, Nat.le_of_ble_eq_true rfl⟩ ⟨rfl, rfl⟩ hml hl.1 hK hP hD hS hA ⟨rfl, rfl, rfl, rfl, rfl, rfl, rfl⟩ rfl rfl (Nat.le_of_ble_eq_true rfl) ⟨Nat.zero_le _, Nat.zero_le _⟩ dX2_write_1 (fun H locs hP hD hS => ?_)
  refine lv_iload_n hx hb dX2_write_4 rfl (lv_at hl 1 rfl) ?_
  refine CtI.callS (n := 1) (wc := ([] : va_W)) (wr := (OBo cyI h b1 b2 hu ht hw wr hm) ++ ((CBc cyI cyZ hu u1 u2 u3 (u.1, u.2.1, u.2.2.1, u.2.2.2.1, u.2.2.2.2.1, u.2.2.2.2.2.1, u.2.2.2.2.2.2.1, u.2.2.2.2.2.2.2.1, u.2.2.2.2.2.2.2.2.1, u.2.2.2.2.2.2.2.2.2.1, u.2.2.2.2.2.2.2.2.2.2)) ++ ((CBc cyI cyZ ht t1 t2 t3 (tr.1, tr.2.1, tr.2.2.1, tr.2.2.2.1, tr.2.2.2.2.1, tr.2.2.2.2.2.1, tr.2.2.2.2.2.2.1, tr.2.2.2.2.2.2.2.1, tr.2.2.2.2.2.2.2.2.1, tr.2.2.2.2.2.2.2.2.2.1, tr.2.2.2.2.2.2.2.2.2.2)) ++ (LAc cyI cyZ hw l1 l2 (la.1, la.2.1, la.2.2.1, la.2.2.2))))) (w1 := ([] : va_W)) (ws' := (OBo cyI h b1 b2 hu ht hw wr hm) ++ ((CBc cyI cyZ hu u1 u2 u3 (u.1, u.2.1, u.2.2.1, u.2.2.2.1, u.2.2.2.2.1, u.2.2.2.2.2.1, u.2.2.2.2.2.2.1, u.2.2.2.2.2.2.2.1, u.2.2.2.2.2.2.2.2.1, u.2.2.2.2.2.2.2.2.2.1, u.2.2.2.2.2.2.2.2.2.2)) ++ ((CBc cyI cyZ ht t1 t2 t3 (tr.1, tr.2.1, tr.2.2.1, tr.2.2.2.1, tr.2.2.2.2.1, tr.2.2.2.2.2.1, tr.2.2.2.2.2.2.1, tr.2.2.2.2.2.2.2.1, tr.2.2.2.2.2.2.2.2.1, tr.2.2.2.2.2.2.2.2.2.1, tr.2.2.2.2.2.2.2.2.2.2)) ++ (LAc cyI cyZ hw l1 l2 (la.1, la.2.1, la.2.2.1, la.2.2.2))))) (isC := []) (isR := [0, 1, 2, 3, 4, 5, 6, 7, 8, 9, 10, 11, 12, 13]) (ps := [0, 1, 2, 3, 4, 5, 6, 7, 8, 9, 10, 11, 12, 13]) (As := [.int (nI a)]) (rest := []) (c_lineOf l D cyI cyZ cyJ a (by omega)) ⟨hx, hb, hown, hts⟩ gX2_write_X2_lineOf rfl ⟨by decide, by decide, by decide +kernel⟩ ⟨Nat.le_of_ble_eq_true rfl, Nat.le_of_ble_eq_true rfl⟩ ⟨rfl, rfl⟩ hml hl.1 hK hP hD hS hA ⟨rfl, rfl, rfl, rfl, rfl, rfl, rfl⟩ rfl rfl (Nat.le_of_ble_eq_true rfl) ⟨Nat.zero_le _, Nat.zero_le _⟩ dX2_write_5 (fun H locs hP hD hS => ?_)
  refine lv_istore_n (lv' := [(3, .int (nI (a / 4))), (0, .ref h), (1, .int (nI a)), (2, .int v)]) hx hb dX2_write_8 rfl hl (by decide) rfl (fun ls hl => ?_)
  refine lv_aload_n hx hb dX2_write_9 rfl (lv_at hl 1 rfl) ?_
  refine va_get (D := D) (ci := 2) (v := .ref hu) (C := RX2) (T := TX2) (N := 5) hx hb hts hi_RX2 hown hK hP 0 rfl rfl 2 (by decide) hf_21 (fun _ h9 => h9) rfl dX2_write_10 ?_
  refine va_get (D := D) (ci := 0) (v := .ref u3) (C := RX0) (T := TX0) (N := 11) hx hb hts hi_RX0 hown hK hP 3 rfl rfl 5 (by decide) hf_47 (fun _ h9 => h9) rfl dX2_write_13 ?_
  refine lv_iload_n hx hb dX2_write_16 rfl (lv_at hl 0 rfl) ?_
  refine mq_zld (k := (a / 4)) u.2.2.2.2.2.1 hx hb hK hP 6 1 rfl rfl (by omega) (Nat.le_of_ble_eq_true rfl) dX2_write_17 ?_
  refine mq_bnz (b := (u.2.2.2.2.2.1 (a / 4))) (tgt := 26) hx hb dX2_write_18 (by decide) (fun c1 => ?_) (fun c1 => ?_)
  · refine lv_aload_n hx hb dX2_write_26 rfl (lv_at hl 1 rfl) ?_
    refine lv_iload_n hx hb dX2_write_27 rfl (lv_at hl 0 rfl) ?_
    refine lv_iconst (v := nI 1) hx hb dX2_write_28 (by decide) ?_
    refine CtV.callV (n := 2) (q0 := 0) (ci := 2) (wc := (OBo cyI h b1 b2 hu ht hw wr hm) ++ ((CBc cyI cyZ hu u1 u2 u3 (u.1, u.2.1, u.2.2.1, u.2.2.2.1, u.2.2.2.2.1, u.2.2.2.2.2.1, u.2.2.2.2.2.2.1, u.2.2.2.2.2.2.2.1, u.2.2.2.2.2.2.2.2.1, u.2.2.2.2.2.2.2.2.2.1, u.2.2.2.2.2.2.2.2.2.2)) ++ ((CBc cyI cyZ ht t1 t2 t3 (tr.1, tr.2.1, tr.2.2.1, tr.2.2.2.1, tr.2.2.2.2.1, tr.2.2.2.2.2.1, tr.2.2.2.2.2.2.1, tr.2.2.2.2.2.2.2.1, tr.2.2.2.2.2.2.2.2.1, tr.2.2.2.2.2.2.2.2.2.1, tr.2.2.2.2.2.2.2.2.2.2)) ++ (LAc cyI cyZ hw l1 l2 (la.1, la.2.1, la.2.2.1, la.2.2.2))))) (wr := ([] : va_W)) (w1 := (OBo cyI h b1 b2 hu ht hw wr hm) ++ ((CBc cyI cyZ hu u1 u2 u3 ((cb_acc (a / 4) true u).1, (cb_acc (a / 4) true u).2.1, (cb_acc (a / 4) true u).2.2.1, (cb_acc (a / 4) true u).2.2.2.1, (cb_acc (a / 4) true u).2.2.2.2.1, (cb_acc (a / 4) true u).2.2.2.2.2.1, (cb_acc (a / 4) true u).2.2.2.2.2.2.1, (cb_acc (a / 4) true u).2.2.2.2.2.2.2.1, (cb_acc (a / 4) true u).2.2.2.2.2.2.2.2.1, (cb_acc (a / 4) true u).2.2.2.2.2.2.2.2.2.1, (cb_acc (a / 4) true u).2.2.2.2.2.2.2.2.2.2)) ++ ((CBc cyI cyZ ht t1 t2 t3 (tr.1, tr.2.1, tr.2.2.1, tr.2.2.2.1, tr.2.2.2.2.1, tr.2.2.2.2.2.1, tr.2.2.2.2.2.2.1, tr.2.2.2.2.2.2.2.1, tr.2.2.2.2.2.2.2.2.1, tr.2.2.2.2.2.2.2.2.2.1, tr.2.2.2.2.2.2.2.2.2.2)) ++ (LAc cyI cyZ hw l1 l2 ((la_add (a / 4) true la).1, (la_add (a / 4) true la).2.1, (la_add (a / 4) true la).2.2.1, (la_add (a / 4) true la).2.2.2))))) (ws' := (OBo cyI h b1 b2 hu ht hw wr hm) ++ ((CBc cyI cyZ hu u1 u2 u3 ((cb_acc (a / 4) true u).1, (cb_acc (a / 4) true u).2.1, (cb_acc (a / 4) true u).2.2.1, (cb_acc (a / 4) true u).2.2.2.1, (cb_acc (a / 4) true u).2.2.2.2.1, (cb_acc (a / 4) true u).2.2.2.2.2.1, (cb_acc (a / 4) true u).2.2.2.2.2.2.1, (cb_acc (a / 4) true u).2.2.2.2.2.2.2.1, (cb_acc (a / 4) true u).2.2.2.2.2.2.2.2.1, (cb_acc (a / 4) true u).2.2.2.2.2.2.2.2.2.1, (cb_acc (a / 4) true u).2.2.2.2.2.2.2.2.2.2)) ++ ((CBc cyI cyZ ht t1 t2 t3 (tr.1, tr.2.1, tr.2.2.1, tr.2.2.2.1, tr.2.2.2.2.1, tr.2.2.2.2.2.1, tr.2.2.2.2.2.2.1, tr.2.2.2.2.2.2.2.1, tr.2.2.2.2.2.2.2.2.1, tr.2.2.2.2.2.2.2.2.2.1, tr.2.2.2.2.2.2.2.2.2.2)) ++ (LAc cyI cyZ hw l1 l2 ((la_add (a / 4) true la).1, (la_add (a / 4) true la).2.1, (la_add (a / 4) true la).2.2.1, (la_add (a / 4) true la).2.2.2))))) (isC := [0, 1, 2, 3, 4, 5, 6, 7, 8, 9, 10, 11, 12, 13]) (isR := []) (ps := [0, 1, 2, 3, 4, 5, 6, 7, 8, 9, 10, 11, 12, 13]) (As := [.int (nI (a / 4)), .int (bI true)]) (rest := []) (c_ask l D cyI cyZ cyJ h b1 b2 hu u1 u2 u3 ht t1 t2 t3 hw l1 l2 wr hm u tr la (a / 4) true hbd (by omega) hla) ⟨hx, hb, hown, hts⟩ gX2_write_X2_ask rfl ⟨rfl, by decide, by decide, by decide +kernel⟩ ⟨Nat.le_of_ble_eq_true rfl, Nat.le_of_ble_eq_true rfl⟩ ⟨rfl, rfl⟩ hml hl.1 hK hP hD hS hA ⟨rfl, rfl, rfl, rfl, rfl, rfl, rfl⟩ rfl ⟨rfl, rfl⟩ rfl rfl (Nat.le_of_ble_eq_true rfl) ⟨Nat.zero_le _, Nat.zero_le _⟩ dX2_write_29 (fun H locs hP hD hS => ?_)
    refine lv_aload_n hx hb dX2_write_32 rfl (lv_at hl 1 rfl) ?_
    refine va_get (D := D) (ci := 2) (v := .ref b1) (C := RX2) (T := TX2) (N := 5) hx hb hts hi_RX2 hown hK hP 0 rfl rfl 0 (by decide) hf_9 (fun _ h9 => h9) rfl dX2_write_33 ?_
    refine lv_iload_n hx hb dX2_write_36 rfl (lv_at hl 2 rfl) ?_
    refine mq_ldR (k := a) wr hx hb hK hP 1 0 rfl rfl (by omega) (Nat.le_of_ble_eq_true rfl) dX2_write_37 ?_
    refine lv_istore (lv' := [(4, .int (wr a)), (3, .int (nI (a / 4))), (0, .ref h), (1, .int (nI a)), (2, .int v)]) hx hb dX2_write_38 hl (by decide) rfl (fun ls hl => ?_)
    refine lv_aload_n hx hb dX2_write_40 rfl (lv_at hl 2 rfl) ?_
    refine va_get (D := D) (ci := 2) (v := .ref b1) (C := RX2) (T := TX2) (N := 5) hx hb hts hi_RX2 hown hK hP 0 rfl rfl 0 (by decide) hf_9 (fun _ h9 => h9) rfl dX2_write_41 ?_
    refine lv_iload_n hx hb dX2_write_44 rfl (lv_at hl 3 rfl) ?_
    refine lv_iload_n hx hb dX2_write_45 rfl (lv_at hl 4 rfl) ?_
    refine mq_stR (k := a) wr v (ws' := (OBo cyI h b1 b2 hu ht hw (ru wr a v) hm) ++ ((CBc cyI cyZ hu u1 u2 u3 ((cb_acc (a / 4) true u).1, (cb_acc (a / 4) true u).2.1, (cb_acc (a / 4) true u).2.2.1, (cb_acc (a / 4) true u).2.2.2.1, (cb_acc (a / 4) true u).2.2.2.2.1, (cb_acc (a / 4) true u).2.2.2.2.2.1, (cb_acc (a / 4) true u).2.2.2.2.2.2.1, (cb_acc (a / 4) true u).2.2.2.2.2.2.2.1, (cb_acc (a / 4) true u).2.2.2.2.2.2.2.2.1, (cb_acc (a / 4) true u).2.2.2.2.2.2.2.2.2.1, (cb_acc (a / 4) true u).2.2.2.2.2.2.2.2.2.2)) ++ ((CBc cyI cyZ ht t1 t2 t3 (tr.1, tr.2.1, tr.2.2.1, tr.2.2.2.1, tr.2.2.2.2.1, tr.2.2.2.2.2.1, tr.2.2.2.2.2.2.1, tr.2.2.2.2.2.2.2.1, tr.2.2.2.2.2.2.2.2.1, tr.2.2.2.2.2.2.2.2.2.1, tr.2.2.2.2.2.2.2.2.2.2)) ++ (LAc cyI cyZ hw l1 l2 ((la_add (a / 4) true la).1, (la_add (a / 4) true la).2.1, (la_add (a / 4) true la).2.2.1, (la_add (a / 4) true la).2.2.2))))) hx hb hK hP hD hS 1 0 rfl rfl (by omega) (Nat.le_of_ble_eq_true rfl) dX2_write_46 rfl (fun H locs hP hD hS => ?_)
    refine lv_iload hx hb dX2_write_47 (lv_at hl 0 rfl) ?_
    exact CtI.ret hQ hx hb hr hlk hK hP hD hS dX2_write_49 rfl (by rw [if_pos (show cb_dt u (a / 4) = true from c1)])
  · refine lv_aload_n hx hb dX2_write_21 rfl (lv_at hl 1 rfl) ?_
    refine lv_iload_n hx hb dX2_write_22 rfl (lv_at hl 0 rfl) ?_
    refine CtV.callV (n := 1) (q0 := 0) (ci := 2) (wc := OBo cyI h b1 b2 hu ht hw wr hm) (wr := (CBc cyI cyZ hu u1 u2 u3 (u.1, u.2.1, u.2.2.1, u.2.2.2.1, u.2.2.2.2.1, u.2.2.2.2.2.1, u.2.2.2.2.2.2.1, u.2.2.2.2.2.2.2.1, u.2.2.2.2.2.2.2.2.1, u.2.2.2.2.2.2.2.2.2.1, u.2.2.2.2.2.2.2.2.2.2)) ++ ((CBc cyI cyZ ht t1 t2 t3 (tr.1, tr.2.1, tr.2.2.1, tr.2.2.2.1, tr.2.2.2.2.1, tr.2.2.2.2.2.1, tr.2.2.2.2.2.2.1, tr.2.2.2.2.2.2.2.1, tr.2.2.2.2.2.2.2.2.1, tr.2.2.2.2.2.2.2.2.2.1, tr.2.2.2.2.2.2.2.2.2.2)) ++ (LAc cyI cyZ hw l1 l2 (la.1, la.2.1, la.2.2.1, la.2.2.2)))) (w1 := OBo cyI h b1 b2 hu ht hw wr (cpy hm wr (a / 4 * 4) (a / 4 * 4 + 4))) (ws' := (OBo cyI h b1 b2 hu ht hw wr (cpy hm wr (a / 4 * 4) (a / 4 * 4 + 4))) ++ ((CBc cyI cyZ hu u1 u2 u3 (u.1, u.2.1, u.2.2.1, u.2.2.2.1, u.2.2.2.2.1, u.2.2.2.2.2.1, u.2.2.2.2.2.2.1, u.2.2.2.2.2.2.2.1, u.2.2.2.2.2.2.2.2.1, u.2.2.2.2.2.2.2.2.2.1, u.2.2.2.2.2.2.2.2.2.2)) ++ ((CBc cyI cyZ ht t1 t2 t3 (tr.1, tr.2.1, tr.2.2.1, tr.2.2.2.1, tr.2.2.2.2.1, tr.2.2.2.2.2.1, tr.2.2.2.2.2.2.1, tr.2.2.2.2.2.2.2.1, tr.2.2.2.2.2.2.2.2.1, tr.2.2.2.2.2.2.2.2.2.1, tr.2.2.2.2.2.2.2.2.2.2)) ++ (LAc cyI cyZ hw l1 l2 (la.1, la.2.1, la.2.2.1, la.2.2.2))))) (isC := [0, 1, 2]) (isR := [3, 4, 5, 6, 7, 8, 9, 10, 11, 12, 13]) (ps := [11, 12, 13, 0, 1, 2, 3, 4, 5, 6, 7, 8, 9, 10]) (As := [.int (nI (a / 4))]) (rest := []) (c_keep l D cyI cyZ cyJ h b1 b2 hu ht hw wr hm (a / 4) (by omega)) ⟨hx, hb, hown, hts⟩ gX2_write_X2_keepHomeWords rfl ⟨rfl, by decide, by decide, by decide +kernel⟩ ⟨Nat.le_of_ble_eq_true rfl, Nat.le_of_ble_eq_true rfl⟩ ⟨rfl, rfl⟩ hml hl.1 hK hP hD hS hA ⟨rfl, rfl, rfl, rfl, rfl, rfl, rfl⟩ rfl ⟨rfl, rfl⟩ rfl rfl (Nat.le_of_ble_eq_true rfl) ⟨Nat.zero_le _, Nat.zero_le _⟩ dX2_write_23 (fun H locs hP hD hS => ?_)
    refine lv_aload_n hx hb dX2_write_26 rfl (lv_at hl 1 rfl) ?_
    refine lv_iload_n hx hb dX2_write_27 rfl (lv_at hl 0 rfl) ?_
    refine lv_iconst (v := nI 1) hx hb dX2_write_28 (by decide) ?_
    refine CtV.callV (n := 2) (q0 := 0) (ci := 2) (wc := (OBo cyI h b1 b2 hu ht hw wr (cpy hm wr (a / 4 * 4) (a / 4 * 4 + 4))) ++ ((CBc cyI cyZ hu u1 u2 u3 (u.1, u.2.1, u.2.2.1, u.2.2.2.1, u.2.2.2.2.1, u.2.2.2.2.2.1, u.2.2.2.2.2.2.1, u.2.2.2.2.2.2.2.1, u.2.2.2.2.2.2.2.2.1, u.2.2.2.2.2.2.2.2.2.1, u.2.2.2.2.2.2.2.2.2.2)) ++ ((CBc cyI cyZ ht t1 t2 t3 (tr.1, tr.2.1, tr.2.2.1, tr.2.2.2.1, tr.2.2.2.2.1, tr.2.2.2.2.2.1, tr.2.2.2.2.2.2.1, tr.2.2.2.2.2.2.2.1, tr.2.2.2.2.2.2.2.2.1, tr.2.2.2.2.2.2.2.2.2.1, tr.2.2.2.2.2.2.2.2.2.2)) ++ (LAc cyI cyZ hw l1 l2 (la.1, la.2.1, la.2.2.1, la.2.2.2))))) (wr := ([] : va_W)) (w1 := (OBo cyI h b1 b2 hu ht hw wr (cpy hm wr (a / 4 * 4) (a / 4 * 4 + 4))) ++ ((CBc cyI cyZ hu u1 u2 u3 ((cb_acc (a / 4) true u).1, (cb_acc (a / 4) true u).2.1, (cb_acc (a / 4) true u).2.2.1, (cb_acc (a / 4) true u).2.2.2.1, (cb_acc (a / 4) true u).2.2.2.2.1, (cb_acc (a / 4) true u).2.2.2.2.2.1, (cb_acc (a / 4) true u).2.2.2.2.2.2.1, (cb_acc (a / 4) true u).2.2.2.2.2.2.2.1, (cb_acc (a / 4) true u).2.2.2.2.2.2.2.2.1, (cb_acc (a / 4) true u).2.2.2.2.2.2.2.2.2.1, (cb_acc (a / 4) true u).2.2.2.2.2.2.2.2.2.2)) ++ ((CBc cyI cyZ ht t1 t2 t3 (tr.1, tr.2.1, tr.2.2.1, tr.2.2.2.1, tr.2.2.2.2.1, tr.2.2.2.2.2.1, tr.2.2.2.2.2.2.1, tr.2.2.2.2.2.2.2.1, tr.2.2.2.2.2.2.2.2.1, tr.2.2.2.2.2.2.2.2.2.1, tr.2.2.2.2.2.2.2.2.2.2)) ++ (LAc cyI cyZ hw l1 l2 ((la_add (a / 4) true la).1, (la_add (a / 4) true la).2.1, (la_add (a / 4) true la).2.2.1, (la_add (a / 4) true la).2.2.2))))) (ws' := (OBo cyI h b1 b2 hu ht hw wr (cpy hm wr (a / 4 * 4) (a / 4 * 4 + 4))) ++ ((CBc cyI cyZ hu u1 u2 u3 ((cb_acc (a / 4) true u).1, (cb_acc (a / 4) true u).2.1, (cb_acc (a / 4) true u).2.2.1, (cb_acc (a / 4) true u).2.2.2.1, (cb_acc (a / 4) true u).2.2.2.2.1, (cb_acc (a / 4) true u).2.2.2.2.2.1, (cb_acc (a / 4) true u).2.2.2.2.2.2.1, (cb_acc (a / 4) true u).2.2.2.2.2.2.2.1, (cb_acc (a / 4) true u).2.2.2.2.2.2.2.2.1, (cb_acc (a / 4) true u).2.2.2.2.2.2.2.2.2.1, (cb_acc (a / 4) true u).2.2.2.2.2.2.2.2.2.2)) ++ ((CBc cyI cyZ ht t1 t2 t3 (tr.1, tr.2.1, tr.2.2.1, tr.2.2.2.1, tr.2.2.2.2.1, tr.2.2.2.2.2.1, tr.2.2.2.2.2.2.1, tr.2.2.2.2.2.2.2.1, tr.2.2.2.2.2.2.2.2.1, tr.2.2.2.2.2.2.2.2.2.1, tr.2.2.2.2.2.2.2.2.2.2)) ++ (LAc cyI cyZ hw l1 l2 ((la_add (a / 4) true la).1, (la_add (a / 4) true la).2.1, (la_add (a / 4) true la).2.2.1, (la_add (a / 4) true la).2.2.2))))) (isC := [0, 1, 2, 3, 4, 5, 6, 7, 8, 9, 10, 11, 12, 13]) (isR := []) (ps := [0, 1, 2, 3, 4, 5, 6, 7, 8, 9, 10, 11, 12, 13]) (As := [.int (nI (a / 4)), .int (bI true)]) (rest := []) (c_ask l D cyI cyZ cyJ h b1 b2 hu u1 u2 u3 ht t1 t2 t3 hw l1 l2 wr (cpy hm wr (a / 4 * 4) (a / 4 * 4 + 4)) u tr la (a / 4) true hbd (by omega) hla) ⟨hx, hb, hown, hts⟩ gX2_write_X2_ask rfl ⟨rfl, by decide, by decide, by decide +kernel⟩ ⟨Nat.le_of_ble_eq_true rfl, Nat.le_of_ble_eq_true rfl⟩ ⟨rfl, rfl⟩ hml hl.1 hK hP hD hS hA ⟨rfl, rfl, rfl, rfl, rfl, rfl, rfl⟩ rfl ⟨rfl, rfl⟩ rfl rfl (Nat.le_of_ble_eq_true rfl) ⟨Nat.zero_le _, Nat.zero_le _⟩ dX2_write_29 (fun H locs hP hD hS => ?_)
    refine lv_aload_n hx hb dX2_write_32 rfl (lv_at hl 1 rfl) ?_
    refine va_get (D := D) (ci := 2) (v := .ref b1) (C := RX2) (T := TX2) (N := 5) hx hb hts hi_RX2 hown hK hP 0 rfl rfl 0 (by decide) hf_9 (fun _ h9 => h9) rfl dX2_write_33 ?_
    refine lv_iload_n hx hb dX2_write_36 rfl (lv_at hl 2 rfl) ?_
    refine mq_ldR (k := a) wr hx hb hK hP 1 0 rfl rfl (by omega) (Nat.le_of_ble_eq_true rfl) dX2_write_37 ?_
    refine lv_istore (lv' := [(4, .int (wr a)), (3, .int (nI (a / 4))), (0, .ref h), (1, .int (nI a)), (2, .int v)]) hx hb dX2_write_38 hl (by decide) rfl (fun ls hl => ?_)
    refine lv_aload_n hx hb dX2_write_40 rfl (lv_at hl 2 rfl) ?_
    refine va_get (D := D) (ci := 2) (v := .ref b1) (C := RX2) (T := TX2) (N := 5) hx hb hts hi_RX2 hown hK hP 0 rfl rfl 0 (by decide) hf_9 (fun _ h9 => h9) rfl dX2_write_41 ?_
    refine lv_iload_n hx hb dX2_write_44 rfl (lv_at hl 3 rfl) ?_
    refine lv_iload_n hx hb dX2_write_45 rfl (lv_at hl 4 rfl) ?_
    refine mq_stR (k := a) wr v (ws' := (OBo cyI h b1 b2 hu ht hw (ru wr a v) (cpy hm wr (a / 4 * 4) (a / 4 * 4 + 4))) ++ ((CBc cyI cyZ hu u1 u2 u3 ((cb_acc (a / 4) true u).1, (cb_acc (a / 4) true u).2.1, (cb_acc (a / 4) true u).2.2.1, (cb_acc (a / 4) true u).2.2.2.1, (cb_acc (a / 4) true u).2.2.2.2.1, (cb_acc (a / 4) true u).2.2.2.2.2.1, (cb_acc (a / 4) true u).2.2.2.2.2.2.1, (cb_acc (a / 4) true u).2.2.2.2.2.2.2.1, (cb_acc (a / 4) true u).2.2.2.2.2.2.2.2.1, (cb_acc (a / 4) true u).2.2.2.2.2.2.2.2.2.1, (cb_acc (a / 4) true u).2.2.2.2.2.2.2.2.2.2)) ++ ((CBc cyI cyZ ht t1 t2 t3 (tr.1, tr.2.1, tr.2.2.1, tr.2.2.2.1, tr.2.2.2.2.1, tr.2.2.2.2.2.1, tr.2.2.2.2.2.2.1, tr.2.2.2.2.2.2.2.1, tr.2.2.2.2.2.2.2.2.1, tr.2.2.2.2.2.2.2.2.2.1, tr.2.2.2.2.2.2.2.2.2.2)) ++ (LAc cyI cyZ hw l1 l2 ((la_add (a / 4) true la).1, (la_add (a / 4) true la).2.1, (la_add (a / 4) true la).2.2.1, (la_add (a / 4) true la).2.2.2))))) hx hb hK hP hD hS 1 0 rfl rfl (by omega) (Nat.le_of_ble_eq_true rfl) dX2_write_46 rfl (fun H locs hP hD hS => ?_)
    refine lv_iload hx hb dX2_write_47 (lv_at hl 0 rfl) ?_
    exact CtI.ret hQ hx hb hr hlk hK hP hD hS dX2_write_49 rfl (by rw [if_neg (by rw [show cb_dt u (a / 4) = u.2.2.2.2.2.1 (a / 4) from rfl, c1]; exact Bool.false_ne_true)])
abbrev rmX2_bringHome : Room := { frames := 2, cells := 0, slots := 0, locals := 43 }
set_option maxRecDepth 100000 in
set_option maxHeartbeats 4000000 in
theorem c_bringHome (l : Launch) (D : va_G) (cyI cyZ cyJ : ClassId) (h b1 b2 hu u1 u2 u3 ht t1 t2 t3 hw l1 l2 : Nat) (wr hm : Nat → Int32) (u tr : CBu) (la : LAu) (hbd : cb_bd u) : CtI l yX2_bringHome wsX2_bringHome rmX2_bringHome D (T3 cyI cyZ cyJ) [.ref h] ((OBo cyI h b1 b2 hu ht hw wr hm) ++ ((CBc cyI cyZ hu u1 u2 u3 u) ++ ((CBc cyI cyZ ht t1 t2 t3 tr) ++ (LAc cyI cyZ hw l1 l2 la)))) (cb_hc (cb_bring u) - cb_hc u) ((OBo cyI h b1 b2 hu ht hw wr hm) ++ ((CBc cyI cyZ hu u1 u2 u3 (cb_bring u)) ++ ((CBc cyI cyZ ht t1 t2 t3 tr) ++ (LAc cyI cyZ hw l1 l2 la)))) := by
  refine CtI.of (cc := cX2_bringHome) (maxL := 1) (ret := (some .int)) (lv0 := [(0, .ref h)]) (by decide) rfl (Nat.le_of_ble_eq_true rfl) rfl ?_
  intro p e s m below meth c A ls args Q hx hb hml hr hlk hts hown hK hP hA hD hS hl hQ
  have hP : va_P D vwCl ((OBo cyI h b1 b2 hu ht hw wr hm) ++ ((CBc cyI cyZ hu u1 u2 u3 (u.1, u.2.1, u.2.2.1, u.2.2.2.1, u.2.2.2.2.1, u.2.2.2.2.2.1, u.2.2.2.2.2.2.1, u.2.2.2.2.2.2.2.1, u.2.2.2.2.2.2.2.2.1, u.2.2.2.2.2.2.2.2.2.1, u.2.2.2.2.2.2.2.2.2.2)) ++ ((CBc cyI cyZ ht t1 t2 t3 (tr.1, tr.2.1, tr.2.2.1, tr.2.2.2.1, tr.2.2.2.2.1, tr.2.2.2.2.2.1, tr.2.2.2.2.2.2.1, tr.2.2.2.2.2.2.2.1, tr.2.2.2.2.2.2.2.2.1, tr.2.2.2.2.2.2.2.2.2.1, tr.2.2.2.2.2.2.2.2.2.2)) ++ (LAc cyI cyZ hw l1 l2 (la.1, la.2.1, la.2.2.1, la.2.2.2))))) s.heap := hP
  have hD : va_D A ((OBo cyI h b1 b2 hu ht hw wr hm) ++ ((CBc cyI cyZ hu u1 u2 u3 (u.1, u.2.1, u.2.2.1, u.2.2.2.1, u.2.2.2.2.1, u.2.2.2.2.2.1, u.2.2.2.2.2.2.1, u.2.2.2.2.2.2.2.1, u.2.2.2.2.2.2.2.2.1, u.2.2.2.2.2.2.2.2.2.1, u.2.2.2.2.2.2.2.2.2.2)) ++ ((CBc cyI cyZ ht t1 t2 t3 (tr.1, tr.2.1, tr.2.2.1, tr.2.2.2.1, tr.2.2.2.2.1, tr.2.2.2.2.2.1, tr.2.2.2.2.2.2.1, tr.2.2.2.2.2.2.2.1, tr.2.2.2.2.2.2.2.2.1, tr.2.2.2.2.2.2.2.2.2.1, tr.2.2.2.2.2.2.2.2.2.2)) ++ (LAc cyI cyZ hw l1 l2 (la.1, la.2.1, la.2.2.1, la.2.2.2))))) := hD
  have hown : s.vm.findClass RX2 = some m.cls := hown
  have hi_RX2 : ∀ w ∈ wsX20, w ∈ wsX2_bringHome := by decide +kernel
  have hf_21 := hts (.fieldLink RX2 21 "OutcastBench" "actual" "LOutcastBench$CacheAndBench;") (by decide +kernel)
  refine lv_aload_n hx hb dX2_bringHome_0 rfl (lv_at hl 0 rfl) ?_
  refine va_get (D := D) (ci := 2) (v := .ref hu) (C := RX2) (T := TX2) (N := 5) hx hb hts hi_RX2 hown hK hP 0 rfl rfl 2 (by decide) hf_21 (fun _ h9 => h9) rfl dX2_bringHome_1 ?_
  refine CtI.callV (n := 0) (q0 := 0) (ci := 0) (wc := CBc cyI cyZ hu u1 u2 u3 (u.1, u.2.1, u.2.2.1, u.2.2.2.1, u.2.2.2.2.1, u.2.2.2.2.2.1, u.2.2.2.2.2.2.1, u.2.2.2.2.2.2.2.1, u.2.2.2.2.2.2.2.2.1, u.2.2.2.2.2.2.2.2.2.1, u.2.2.2.2.2.2.2.2.2.2)) (wr := (OBo cyI h b1 b2 hu ht hw wr hm) ++ ((CBc cyI cyZ ht t1 t2 t3 (tr.1, tr.2.1, tr.2.2.1, tr.2.2.2.1, tr.2.2.2.2.1, tr.2.2.2.2.2.1, tr.2.2.2.2.2.2.1, tr.2.2.2.2.2.2.2.1, tr.2.2.2.2.2.2.2.2.1, tr.2.2.2.2.2.2.2.2.2.1, tr.2.2.2.2.2.2.2.2.2.2)) ++ (LAc cyI cyZ hw l1 l2 (la.1, la.2.1, la.2.2.1, la.2.2.2)))) (w1 := CBc cyI cyZ hu u1 u2 u3 ((cb_bring u).1, (cb_bring u).2.1, (cb_bring u).2.2.1, (cb_bring u).2.2.2.1, (cb_bring u).2.2.2.2.1, (cb_bring u).2.2.2.2.2.1, (cb_bring u).2.2.2.2.2.2.1, (cb_bring u).2.2.2.2.2.2.2.1, (cb_bring u).2.2.2.2.2.2.2.2.1, (cb_bring u).2.2.2.2.2.2.2.2.2.1, (cb_bring u).2.2.2.2.2.2.2.2.2.2)) (ws' := (OBo cyI h b1 b2 hu ht hw wr hm) ++ ((CBc cyI cyZ hu u1 u2 u3 ((cb_bring u).1, (cb_bring u).2.1, (cb_bring u).2.2.1, (cb_bring u).2.2.2.1, (cb_bring u).2.2.2.2.1, (cb_bring u).2.2.2.2.2.1, (cb_bring u).2.2.2.2.2.2.1, (cb_bring u).2.2.2.2.2.2.2.1, (cb_bring u).2.2.2.2.2.2.2.2.1, (cb_bring u).2.2.2.2.2.2.2.2.2.1, (cb_bring u).2.2.2.2.2.2.2.2.2.2)) ++ ((CBc cyI cyZ ht t1 t2 t3 (tr.1, tr.2.1, tr.2.2.1, tr.2.2.2.1, tr.2.2.2.2.1, tr.2.2.2.2.2.1, tr.2.2.2.2.2.2.1, tr.2.2.2.2.2.2.2.1, tr.2.2.2.2.2.2.2.2.1, tr.2.2.2.2.2.2.2.2.2.1, tr.2.2.2.2.2.2.2.2.2.2)) ++ (LAc cyI cyZ hw l1 l2 (la.1, la.2.1, la.2.2.1, la.2.2.2))))) (isC := [3, 4, 5, 6]) (isR := [0, 1, 2, 7, 8, 9, 10, 11, 12, 13]) (ps := [0, 1, 2, 10, 11, 12, 13, 3, 4, 5, 6, 7, 8, 9]) (As := []) (rest := []) (c_bringU l D cyI cyZ cyJ hu u1 u2 u3 u hbd) ⟨hx, hb, hown, hts⟩ gX2_bringHome_X0_bringAllHome rfl ⟨rfl, by decide, by decide, by decide +kernel⟩ ⟨Nat.le_of_ble_eq_true rfl, Nat.le_of_ble_eq_true rfl⟩ ⟨rfl, rfl⟩ hml hl.1 hK hP hD hS hA ⟨rfl, rfl, rfl, rfl, rfl, rfl, rfl⟩ rfl ⟨rfl, rfl⟩ rfl rfl (Nat.le_of_ble_eq_true rfl) ⟨Nat.zero_le _, Nat.zero_le _⟩ dX2_bringHome_4 (fun H locs hP hD hS => ?_)
  exact CtI.ret hQ hx hb hr hlk hK hP hD hS dX2_bringHome_7 rfl rfl
abbrev rmX2_build : Room := { frames := 2, cells := 0, slots := 0, locals := 46 }
set_option maxRecDepth 100000 in
set_option maxHeartbeats 4000000 in
theorem c_build (l : Launch) (D : va_G) (cyI cyZ cyJ : ClassId) (h b1 b2 hu u1 u2 u3 ht t1 t2 t3 hw l1 l2 : Nat) (wr hm : Nat → Int32) (u tr : CBu) (la : LAu) (s' p' : Nat) (hbd : cb_bd u) (hs : s' = 1 ∨ s' = 2 ∨ s' = 4 ∨ s' = 8 ∨ s' = 16) (hp : p' ≤ 8) : CtI l yX2_build wsX2_build rmX2_build D (T3 cyI cyZ cyJ) [.ref h, .int (nI s'), .int (nI p')] ((OBo cyI h b1 b2 hu ht hw wr hm) ++ ((CBc cyI cyZ hu u1 u2 u3 u) ++ ((CBc cyI cyZ ht t1 t2 t3 tr) ++ (LAc cyI cyZ hw l1 l2 la)))) (nI (cb_lines u)) ((OBo cyI h b1 b2 hu ht hw wr hm) ++ ((CBc cyI cyZ hu u1 u2 u3 (cb_empty s' p' (cb_bring u))) ++ ((CBc cyI cyZ ht t1 t2 t3 tr) ++ (LAc cyI cyZ hw l1 l2 la)))) := by
  refine CtI.of (cc := cX2_build) (maxL := 4) (ret := (some .int)) (lv0 := [(0, .ref h), (1, .int (nI s')), (2, .int (nI p'))]) (by decide) rfl (Nat.le_of_ble_eq_true rfl) rfl ?_
  intro p e s m below meth c A ls args Q hx hb hml hr hlk hts hown hK hP hA hD hS hl hQ
  have hP : va_P D vwCl ((OBo cyI h b1 b2 hu ht hw wr hm) ++ ((CBc cyI cyZ hu u1 u2 u3 (u.1, u.2.1, u.2.2.1, u.2.2.2.1, u.2.2.2.2.1, u.2.2.2.2.2.1, u.2.2.2.2.2.2.1, u.2.2.2.2.2.2.2.1, u.2.2.2.2.2.2.2.2.1, u.2.2.2.2.2.2.2.2.2.1, u.2.2.2.2.2.2.2.2.2.2)) ++ ((CBc cyI cyZ ht t1 t2 t3 (tr.1, tr.2.1, tr.2.2.1, tr.2.2.2.1, tr.2.2.2.2.1, tr.2.2.2.2.2.1, tr.2.2.2.2.2.2.1, tr.2.2.2.2.2.2.2.1, tr.2.2.2.2.2.2.2.2.1, tr.2.2.2.2.2.2.2.2.2.1, tr.2.2.2.2.2.2.2.2.2.2)) ++ (LAc cyI cyZ hw l1 l2 (la.1, la.2.1, la.2.2.1, la.2.2.2))))) s.heap := hP
  have hD : va_D A ((OBo cyI h b1 b2 hu ht hw wr hm) ++ ((CBc cyI cyZ hu u1 u2 u3 (u.1, u.2.1, u.2.2.1, u.2.2.2.1, u.2.2.2.2.1, u.2.2.2.2.2.1, u.2.2.2.2.2.2.1, u.2.2.2.2.2.2.2.1, u.2.2.2.2.2.2.2.2.1, u.2.2.2.2.2.2.2.2.2.1, u.2.2.2.2.2.2.2.2.2.2)) ++ ((CBc cyI cyZ ht t1 t2 t3 (tr.1, tr.2.1, tr.2.2.1, tr.2.2.2.1, tr.2.2.2.2.1, tr.2.2.2.2.2.1, tr.2.2.2.2.2.2.1, tr.2.2.2.2.2.2.2.1, tr.2.2.2.2.2.2.2.2.1, tr.2.2.2.2.2.2.2.2.2.1, tr.2.2.2.2.2.2.2.2.2.2)) ++ (LAc cyI cyZ hw l1 l2 (la.1, la.2.1, la.2.2.1, la.2.2.2))))) := hD
  have hown : s.vm.findClass RX2 = some m.cls := hown
  have hi_RX2 : ∀ w ∈ wsX20, w ∈ wsX2_build := by decide +kernel
  have hf_21 := hts (.fieldLink RX2 21 "OutcastBench" "actual" "LOutcastBench$CacheAndBench;") (by decide +kernel)
  refine lv_iload_n hx hb dX2_build_0 rfl (lv_at hl 1 rfl) ?_
  refine lv_iload_n hx hb dX2_build_1 rfl (lv_at hl 2 rfl) ?_
  refine CtV.callS (n := 2) (wc := ([] : va_W)) (wr := (OBo cyI h b1 b2 hu ht hw wr hm) ++ ((CBc cyI cyZ hu u1 u2 u3 (u.1, u.2.1, u.2.2.1, u.2.2.2.1, u.2.2.2.2.1, u.2.2.2.2.2.1, u.2.2.2.2.2.2.1, u.2.2.2.2.2.2.2.1, u.2.2.2.2.2.2.2.2.1, u.2.2.2.2.2.2.2.2.2.1, u.2.2.2.2.2.2.2.2.2.2)) ++ ((CBc cyI cyZ ht t1 t2 t3 (tr.1, tr.2.1, tr.2.2.1, tr.2.2.2.1, tr.2.2.2.2.1, tr.2.2.2.2.2.1, tr.2.2.2.2.2.2.1, tr.2.2.2.2.2.2.2.1, tr.2.2.2.2.2.2.2.2.1, tr.2.2.2.2.2.2.2.2.2.1, tr.2.2.2.2.2.2.2.2.2.2)) ++ (LAc cyI cyZ hw l1 l2 (la.1, la.2.1, la.2.2.1, la.2.2.2))))) (w1 := ([] : va_W)) (ws' := (OBo cyI h b1 b2 hu ht hw wr hm) ++ ((CBc cyI cyZ hu u1 u2 u3 (u.1, u.2.1, u.2.2.1, u.2.2.2.1, u.2.2.2.2.1, u.2.2.2.2.2.1, u.2.2.2.2.2.2.1, u.2.2.2.2.2.2.2.1, u.2.2.2.2.2.2.2.2.1, u.2.2.2.2.2.2.2.2.2.1, u.2.2.2.2.2.2.2.2.2.2)) ++ ((CBc cyI cyZ ht t1 t2 t3 (tr.1, tr.2.1, tr.2.2.1, tr.2.2.2.1, tr.2.2.2.2.1, tr.2.2.2.2.2.1, tr.2.2.2.2.2.2.1, tr.2.2.2.2.2.2.2.1, tr.2.2.2.2.2.2.2.2.1, tr.2.2.2.2.2.2.2.2.2.1, tr.2.2.2.2.2.2.2.2.2.2)) ++ (LAc cyI cyZ hw l1 l2 (la.1, la.2.1, la.2.2.1, la.2.2.2))))) (isC := []) (isR := [0, 1, 2, 3, 4, 5, 6, 7, 8, 9, 10, 11, 12, 13]) (ps := [0, 1, 2, 3, 4, 5, 6, 7, 8, 9, 10, 11, 12, 13]) (As := [.int (nI s'), .int (nI p')]) (rest := []) (c_requireSize l D cyI cyZ cyJ s' p' hs hp) ⟨hx, hb, hown, hts⟩ gX2_build_X2_requireSize rfl ⟨by decide, by decide, by decide +kernel⟩ ⟨Nat.le_of_ble_eq_true rfl, Nat.le_of_ble_eq_true rfl⟩ ⟨rfl, rfl⟩ hml hl.1 hK hP hD hS hA ⟨rfl, rfl, rfl, rfl, rfl, rfl, rfl⟩ rfl rfl (Nat.le_of_ble_eq_true rfl) ⟨Nat.zero_le _, Nat.zero_le _⟩ dX2_build_2 (fun H locs hP hD hS => ?_)
  refine lv_aload_n hx hb dX2_build_5 rfl (lv_at hl 0 rfl) ?_
  refine va_get (D := D) (ci := 2) (v := .ref hu) (C := RX2) (T := TX2) (N := 5) hx hb hts hi_RX2 hown hK hP 0 rfl rfl 2 (by decide) hf_21 (fun _ h9 => h9) rfl dX2_build_6 ?_
  refine CtI.callV (n := 0) (q0 := 0) (ci := 0) (wc := CBc cyI cyZ hu u1 u2 u3 (u.1, u.2.1, u.2.2.1, u.2.2.2.1, u.2.2.2.2.1, u.2.2.2.2.2.1, u.2.2.2.2.2.2.1, u.2.2.2.2.2.2.2.1, u.2.2.2.2.2.2.2.2.1, u.2.2.2.2.2.2.2.2.2.1, u.2.2.2.2.2.2.2.2.2.2)) (wr := (OBo cyI h b1 b2 hu ht hw wr hm) ++ ((CBc cyI cyZ ht t1 t2 t3 (tr.1, tr.2.1, tr.2.2.1, tr.2.2.2.1, tr.2.2.2.2.1, tr.2.2.2.2.2.1, tr.2.2.2.2.2.2.1, tr.2.2.2.2.2.2.2.1, tr.2.2.2.2.2.2.2.2.1, tr.2.2.2.2.2.2.2.2.2.1, tr.2.2.2.2.2.2.2.2.2.2)) ++ (LAc cyI cyZ hw l1 l2 (la.1, la.2.1, la.2.2.1, la.2.2.2)))) (w1 := CBc cyI cyZ hu u1 u2 u3 (u.1, u.2.1, u.2.2.1, u.2.2.2.1, u.2.2.2.2.1, u.2.2.2.2.2.1, u.2.2.2.2.2.2.1, u.2.2.2.2.2.2.2.1, u.2.2.2.2.2.2.2.2.1, u.2.2.2.2.2.2.2.2.2.1, u.2.2.2.2.2.2.2.2.2.2)) (ws' := (OBo cyI h b1 b2 hu ht hw wr hm) ++ ((CBc cyI cyZ hu u1 u2 u3 (u.1, u.2.1, u.2.2.1, u.2.2.2.1, u.2.2.2.2.1, u.2.2.2.2.2.1, u.2.2.2.2.2.2.1, u.2.2.2.2.2.2.2.1, u.2.2.2.2.2.2.2.2.1, u.2.2.2.2.2.2.2.2.2.1, u.2.2.2.2.2.2.2.2.2.2)) ++ ((CBc cyI cyZ ht t1 t2 t3 (tr.1, tr.2.1, tr.2.2.1, tr.2.2.2.1, tr.2.2.2.2.1, tr.2.2.2.2.2.1, tr.2.2.2.2.2.2.1, tr.2.2.2.2.2.2.2.1, tr.2.2.2.2.2.2.2.2.1, tr.2.2.2.2.2.2.2.2.2.1, tr.2.2.2.2.2.2.2.2.2.2)) ++ (LAc cyI cyZ hw l1 l2 (la.1, la.2.1, la.2.2.1, la.2.2.2))))) (isC := [3, 4, 5, 6]) (isR := [0, 1, 2, 7, 8, 9, 10, 11, 12, 13]) (ps := [0, 1, 2, 10, 11, 12, 13, 3, 4, 5, 6, 7, 8, 9]) (As := []) (rest := []) (c_countLinesU l D cyI cyZ cyJ hu u1 u2 u3 u hbd) ⟨hx, hb, hown, hts⟩ gX2_build_X0_countLines rfl ⟨rfl, by decide, by decide, by decide +kernel⟩ ⟨Nat.le_of_ble_eq_true rfl, Nat.le_of_ble_eq_true rfl⟩ ⟨rfl, rfl⟩ hml hl.1 hK hP hD hS hA ⟨rfl, rfl, rfl, rfl, rfl, rfl, rfl⟩ rfl ⟨rfl, rfl⟩ rfl rfl (Nat.le_of_ble_eq_true rfl) ⟨Nat.zero_le _, Nat.zero_le _⟩ dX2_build_9 (fun H locs hP hD hS => ?_)
  refine lv_istore_n (lv' := [(3, .int (nI (cb_lines u))), (0, .ref h), (1, .int (nI s')), (2, .int (nI p'))]) hx hb dX2_build_12 rfl hl (by decide) rfl (fun ls hl => ?_)
  refine lv_aload_n hx hb dX2_build_13 rfl (lv_at hl 1 rfl) ?_
  refine va_get (D := D) (ci := 2) (v := .ref hu) (C := RX2) (T := TX2) (N := 5) hx hb hts hi_RX2 hown hK hP 0 rfl rfl 2 (by decide) hf_21 (fun _ h9 => h9) rfl dX2_build_14 ?_
  refine CtI.callV (n := 0) (q0 := 0) (ci := 0) (wc := CBc cyI cyZ hu u1 u2 u3 (u.1, u.2.1, u.2.2.1, u.2.2.2.1, u.2.2.2.2.1, u.2.2.2.2.2.1, u.2.2.2.2.2.2.1, u.2.2.2.2.2.2.2.1, u.2.2.2.2.2.2.2.2.1, u.2.2.2.2.2.2.2.2.2.1, u.2.2.2.2.2.2.2.2.2.2)) (wr := (OBo cyI h b1 b2 hu ht hw wr hm) ++ ((CBc cyI cyZ ht t1 t2 t3 (tr.1, tr.2.1, tr.2.2.1, tr.2.2.2.1, tr.2.2.2.2.1, tr.2.2.2.2.2.1, tr.2.2.2.2.2.2.1, tr.2.2.2.2.2.2.2.1, tr.2.2.2.2.2.2.2.2.1, tr.2.2.2.2.2.2.2.2.2.1, tr.2.2.2.2.2.2.2.2.2.2)) ++ (LAc cyI cyZ hw l1 l2 (la.1, la.2.1, la.2.2.1, la.2.2.2)))) (w1 := CBc cyI cyZ hu u1 u2 u3 ((cb_bring u).1, (cb_bring u).2.1, (cb_bring u).2.2.1, (cb_bring u).2.2.2.1, (cb_bring u).2.2.2.2.1, (cb_bring u).2.2.2.2.2.1, (cb_bring u).2.2.2.2.2.2.1, (cb_bring u).2.2.2.2.2.2.2.1, (cb_bring u).2.2.2.2.2.2.2.2.1, (cb_bring u).2.2.2.2.2.2.2.2.2.1, (cb_bring u).2.2.2.2.2.2.2.2.2.2)) (ws' := (OBo cyI h b1 b2 hu ht hw wr hm) ++ ((CBc cyI cyZ hu u1 u2 u3 ((cb_bring u).1, (cb_bring u).2.1, (cb_bring u).2.2.1, (cb_bring u).2.2.2.1, (cb_bring u).2.2.2.2.1, (cb_bring u).2.2.2.2.2.1, (cb_bring u).2.2.2.2.2.2.1, (cb_bring u).2.2.2.2.2.2.2.1, (cb_bring u).2.2.2.2.2.2.2.2.1, (cb_bring u).2.2.2.2.2.2.2.2.2.1, (cb_bring u).2.2.2.2.2.2.2.2.2.2)) ++ ((CBc cyI cyZ ht t1 t2 t3 (tr.1, tr.2.1, tr.2.2.1, tr.2.2.2.1, tr.2.2.2.2.1, tr.2.2.2.2.2.1, tr.2.2.2.2.2.2.1, tr.2.2.2.2.2.2.2.1, tr.2.2.2.2.2.2.2.2.1, tr.2.2.2.2.2.2.2.2.2.1, tr.2.2.2.2.2.2.2.2.2.2)) ++ (LAc cyI cyZ hw l1 l2 (la.1, la.2.1, la.2.2.1, la.2.2.2))))) (isC := [3, 4, 5, 6]) (isR := [0, 1, 2, 7, 8, 9, 10, 11, 12, 13]) (ps := [0, 1, 2, 10, 11, 12, 13, 3, 4, 5, 6, 7, 8, 9]) (As := []) (rest := []) (c_bringU l D cyI cyZ cyJ hu u1 u2 u3 u hbd) ⟨hx, hb, hown, hts⟩ gX2_build_X0_bringAllHome rfl ⟨rfl, by decide, by decide, by decide +kernel⟩ ⟨Nat.le_of_ble_eq_true rfl, Nat.le_of_ble_eq_true rfl⟩ ⟨rfl, rfl⟩ hml hl.1 hK hP hD hS hA ⟨rfl, rfl, rfl, rfl, rfl, rfl, rfl⟩ rfl ⟨rfl, rfl⟩ rfl rfl (Nat.le_of_ble_eq_true rfl) ⟨Nat.zero_le _, Nat.zero_le _⟩ dX2_build_17 (fun H locs hP hD hS => ?_)
  refine lv_pop hx hb dX2_build_20 rfl ?_
  refine lv_aload_n hx hb dX2_build_21 rfl (lv_at hl 1 rfl) ?_
  refine va_get (D := D) (ci := 2) (v := .ref hu) (C := RX2) (T := TX2) (N := 5) hx hb hts hi_RX2 hown hK hP 0 rfl rfl 2 (by decide) hf_21 (fun _ h9 => h9) rfl dX2_build_22 ?_
  refine lv_iload_n hx hb dX2_build_25 rfl (lv_at hl 2 rfl) ?_
  refine lv_iload_n hx hb dX2_build_26 rfl (lv_at hl 3 rfl) ?_
  refine CtV.callV (n := 2) (q0 := 0) (ci := 0) (wc := CBc cyI cyZ hu u1 u2 u3 ((cb_bring u).1, (cb_bring u).2.1, (cb_bring u).2.2.1, (cb_bring u).2.2.2.1, (cb_bring u).2.2.2.2.1, (cb_bring u).2.2.2.2.2.1, (cb_bring u).2.2.2.2.2.2.1, (cb_bring u).2.2.2.2.2.2.2.1, (cb_bring u).2.2.2.2.2.2.2.2.1, (cb_bring u).2.2.2.2.2.2.2.2.2.1, (cb_bring u).2.2.2.2.2.2.2.2.2.2)) (wr := (OBo cyI h b1 b2 hu ht hw wr hm) ++ ((CBc cyI cyZ ht t1 t2 t3 (tr.1, tr.2.1, tr.2.2.1, tr.2.2.2.1, tr.2.2.2.2.1, tr.2.2.2.2.2.1, tr.2.2.2.2.2.2.1, tr.2.2.2.2.2.2.2.1, tr.2.2.2.2.2.2.2.2.1, tr.2.2.2.2.2.2.2.2.2.1, tr.2.2.2.2.2.2.2.2.2.2)) ++ (LAc cyI cyZ hw l1 l2 (la.1, la.2.1, la.2.2.1, la.2.2.2)))) (w1 := CBc cyI cyZ hu u1 u2 u3 ((cb_empty s' p' (cb_bring u)).1, (cb_empty s' p' (cb_bring u)).2.1, (cb_empty s' p' (cb_bring u)).2.2.1, (cb_empty s' p' (cb_bring u)).2.2.2.1, (cb_empty s' p' (cb_bring u)).2.2.2.2.1, (cb_empty s' p' (cb_bring u)).2.2.2.2.2.1, (cb_empty s' p' (cb_bring u)).2.2.2.2.2.2.1, (cb_empty s' p' (cb_bring u)).2.2.2.2.2.2.2.1, (cb_empty s' p' (cb_bring u)).2.2.2.2.2.2.2.2.1, (cb_empty s' p' (cb_bring u)).2.2.2.2.2.2.2.2.2.1, (cb_empty s' p' (cb_bring u)).2.2.2.2.2.2.2.2.2.2)) (ws' := (OBo cyI h b1 b2 hu ht hw wr hm) ++ ((CBc cyI cyZ hu u1 u2 u3 ((cb_empty s' p' (cb_bring u)).1, (cb_empty s' p' (cb_bring u)).2.1, (cb_empty s' p' (cb_bring u)).2.2.1, (cb_empty s' p' (cb_bring u)).2.2.2.1, (cb_empty s' p' (cb_bring u)).2.2.2.2.1, (cb_empty s' p' (cb_bring u)).2.2.2.2.2.1, (cb_empty s' p' (cb_bring u)).2.2.2.2.2.2.1, (cb_empty s' p' (cb_bring u)).2.2.2.2.2.2.2.1, (cb_empty s' p' (cb_bring u)).2.2.2.2.2.2.2.2.1, (cb_empty s' p' (cb_bring u)).2.2.2.2.2.2.2.2.2.1, (cb_empty s' p' (cb_bring u)).2.2.2.2.2.2.2.2.2.2)) ++ ((CBc cyI cyZ ht t1 t2 t3 (tr.1, tr.2.1, tr.2.2.1, tr.2.2.2.1, tr.2.2.2.2.1, tr.2.2.2.2.2.1, tr.2.2.2.2.2.2.1, tr.2.2.2.2.2.2.2.1, tr.2.2.2.2.2.2.2.2.1, tr.2.2.2.2.2.2.2.2.2.1, tr.2.2.2.2.2.2.2.2.2.2)) ++ (LAc cyI cyZ hw l1 l2 (la.1, la.2.1, la.2.2.1, la.2.2.2))))) (isC := [3, 4, 5, 6]) (isR := [0, 1, 2, 7, 8, 9, 10, 11, 12, 13]) (ps := [0, 1, 2, 10, 11, 12, 13, 3, 4, 5, 6, 7, 8, 9]) (As := [.int (nI s'), .int (nI p')]) (rest := []) (c_startEmptyU l D cyI cyZ cyJ hu u1 u2 u3 (cb_bring u) s' p') ⟨hx, hb, hown, hts⟩ gX2_build_X0_startEmpty rfl ⟨rfl, by decide, by decide, by decide +kernel⟩ ⟨Nat.le_of_ble_eq_true rfl, Nat.le_of_ble_eq_true rfl⟩ ⟨rfl, rfl⟩ hml hl.1 hK hP hD hS hA ⟨rfl, rfl, rfl, rfl, rfl, rfl, rfl⟩ rfl ⟨rfl, rfl⟩ rfl rfl (Nat.le_of_ble_eq_true rfl) ⟨Nat.zero_le _, Nat.zero_le _⟩ dX2_build_27 (fun H locs hP hD hS => ?_)
  refine lv_iload_n hx hb dX2_build_30 rfl (lv_at hl 0 rfl) ?_
  exact CtI.ret hQ hx hb hr hlk hK hP hD hS dX2_build_31 rfl rfl
abbrev rmX2_cast : Room := { frames := 2, cells := 0, slots := 0, locals := 44 }
set_option maxRecDepth 100000 in
set_option maxHeartbeats 4000000 in
theorem c_cast (l : Launch) (D : va_G) (cyI cyZ cyJ : ClassId) (h b1 b2 hu u1 u2 u3 ht t1 t2 t3 hw l1 l2 : Nat) (wr hm : Nat → Int32) (u tr : CBu) (la : LAu) (k q : Nat) (hbd : cb_bd u) (hk : k < u.1) (hln : cb_ln u k = some q) : CtI l yX2_cast wsX2_cast rmX2_cast D (T3 cyI cyZ cyJ) [.ref h, .int (nI k)] ((OBo cyI h b1 b2 hu ht hw wr hm) ++ ((CBc cyI cyZ hu u1 u2 u3 u) ++ ((CBc cyI cyZ ht t1 t2 t3 tr) ++ (LAc cyI cyZ hw l1 l2 la)))) (nI q) ((OBo cyI h b1 b2 hu ht hw wr hm) ++ ((CBc cyI cyZ hu u1 u2 u3 (cb_throw k u)) ++ ((CBc cyI cyZ ht t1 t2 t3 tr) ++ (LAc cyI cyZ hw l1 l2 la)))) := by
  refine CtI.of (cc := cX2_cast) (maxL := 3) (ret := (some .int)) (lv0 := [(0, .ref h), (1, .int (nI k))]) (by decide) rfl (Nat.le_of_ble_eq_true rfl) rfl ?_
  intro p e s m below meth c A ls args Q hx hb hml hr hlk hts hown hK hP hA hD hS hl hQ
  have hP : va_P D vwCl ((OBo cyI h b1 b2 hu ht hw wr hm) ++ ((CBc cyI cyZ hu u1 u2 u3 (u.1, u.2.1, u.2.2.1, u.2.2.2.1, u.2.2.2.2.1, u.2.2.2.2.2.1, u.2.2.2.2.2.2.1, u.2.2.2.2.2.2.2.1, u.2.2.2.2.2.2.2.2.1, u.2.2.2.2.2.2.2.2.2.1, u.2.2.2.2.2.2.2.2.2.2)) ++ ((CBc cyI cyZ ht t1 t2 t3 (tr.1, tr.2.1, tr.2.2.1, tr.2.2.2.1, tr.2.2.2.2.1, tr.2.2.2.2.2.1, tr.2.2.2.2.2.2.1, tr.2.2.2.2.2.2.2.1, tr.2.2.2.2.2.2.2.2.1, tr.2.2.2.2.2.2.2.2.2.1, tr.2.2.2.2.2.2.2.2.2.2)) ++ (LAc cyI cyZ hw l1 l2 (la.1, la.2.1, la.2.2.1, la.2.2.2))))) s.heap := hP
  have hD : va_D A ((OBo cyI h b1 b2 hu ht hw wr hm) ++ ((CBc cyI cyZ hu u1 u2 u3 (u.1, u.2.1, u.2.2.1, u.2.2.2.1, u.2.2.2.2.1, u.2.2.2.2.2.1, u.2.2.2.2.2.2.1, u.2.2.2.2.2.2.2.1, u.2.2.2.2.2.2.2.2.1, u.2.2.2.2.2.2.2.2.2.1, u.2.2.2.2.2.2.2.2.2.2)) ++ ((CBc cyI cyZ ht t1 t2 t3 (tr.1, tr.2.1, tr.2.2.1, tr.2.2.2.1, tr.2.2.2.2.1, tr.2.2.2.2.2.1, tr.2.2.2.2.2.2.1, tr.2.2.2.2.2.2.2.1, tr.2.2.2.2.2.2.2.2.1, tr.2.2.2.2.2.2.2.2.2.1, tr.2.2.2.2.2.2.2.2.2.2)) ++ (LAc cyI cyZ hw l1 l2 (la.1, la.2.1, la.2.2.1, la.2.2.2))))) := hD
  have hown : s.vm.findClass RX2 = some m.cls := hown
  have hi_RX0 : ∀ w ∈ wsX00, w ∈ wsX2_cast := by decide +kernel
  have hi_RX2 : ∀ w ∈ wsX20, w ∈ wsX2_cast := by decide +kernel
  have hf_21 := hts (.fieldLink RX2 21 "OutcastBench" "actual" "LOutcastBench$CacheAndBench;") (by decide +kernel)
  have hf_87 := hts (.fieldLink RX2 87 "OutcastBench$CacheAndBench" "lines" "[I") (by decide +kernel)
  refine lv_aload_n hx hb dX2_cast_0 rfl (lv_at hl 0 rfl) ?_
  refine lv_iload_n hx hb dX2_cast_1 rfl (lv_at hl 1 rfl) ?_
  refine CtV.callV (n := 1) (q0 := 0) (ci := 2) (wc := (OBo cyI h b1 b2 hu ht hw wr hm) ++ ((CBc cyI cyZ hu u1 u2 u3 (u.1, u.2.1, u.2.2.1, u.2.2.2.1, u.2.2.2.2.1, u.2.2.2.2.2.1, u.2.2.2.2.2.2.1, u.2.2.2.2.2.2.2.1, u.2.2.2.2.2.2.2.2.1, u.2.2.2.2.2.2.2.2.2.1, u.2.2.2.2.2.2.2.2.2.2)) ++ ((CBc cyI cyZ ht t1 t2 t3 (tr.1, tr.2.1, tr.2.2.1, tr.2.2.2.1, tr.2.2.2.2.1, tr.2.2.2.2.2.1, tr.2.2.2.2.2.2.1, tr.2.2.2.2.2.2.2.1, tr.2.2.2.2.2.2.2.2.1, tr.2.2.2.2.2.2.2.2.2.1, tr.2.2.2.2.2.2.2.2.2.2)) ++ (LAc cyI cyZ hw l1 l2 (la.1, la.2.1, la.2.2.1, la.2.2.2))))) (wr := ([] : va_W)) (w1 := (OBo cyI h b1 b2 hu ht hw wr hm) ++ ((CBc cyI cyZ hu u1 u2 u3 (u.1, u.2.1, u.2.2.1, u.2.2.2.1, u.2.2.2.2.1, u.2.2.2.2.2.1, u.2.2.2.2.2.2.1, u.2.2.2.2.2.2.2.1, u.2.2.2.2.2.2.2.2.1, u.2.2.2.2.2.2.2.2.2.1, u.2.2.2.2.2.2.2.2.2.2)) ++ ((CBc cyI cyZ ht t1 t2 t3 (tr.1, tr.2.1, tr.2.2.1, tr.2.2.2.1, tr.2.2.2.2.1, tr.2.2.2.2.2.1, tr.2.2.2.2.2.2.1, tr.2.2.2.2.2.2.2.1, tr.2.2.2.2.2.2.2.2.1, tr.2.2.2.2.2.2.2.2.2.1, tr.2.2.2.2.2.2.2.2.2.2)) ++ (LAc cyI cyZ hw l1 l2 (la.1, la.2.1, la.2.2.1, la.2.2.2))))) (ws' := (OBo cyI h b1 b2 hu ht hw wr hm) ++ ((CBc cyI cyZ hu u1 u2 u3 (u.1, u.2.1, u.2.2.1, u.2.2.2.1, u.2.2.2.2.1, u.2.2.2.2.2.1, u.2.2.2.2.2.2.1, u.2.2.2.2.2.2.2.1, u.2.2.2.2.2.2.2.2.1, u.2.2.2.2.2.2.2.2.2.1, u.2.2.2.2.2.2.2.2.2.2)) ++ ((CBc cyI cyZ ht t1 t2 t3 (tr.1, tr.2.1, tr.2.2.1, tr.2.2.2.1, tr.2.2.2.2.1, tr.2.2.2.2.2.1, tr.2.2.2.2.2.2.1, tr.2.2.2.2.2.2.2.1, tr.2.2.2.2.2.2.2.2.1, tr.2.2.2.2.2.2.2.2.2.1, tr.2.2.2.2.2.2.2.2.2.2)) ++ (LAc cyI cyZ hw l1 l2 (la.1, la.2.1, la.2.2.1, la.2.2.2))))) (isC := [0, 1, 2, 3, 4, 5, 6, 7, 8, 9, 10, 11, 12, 13]) (isR := []) (ps := [0, 1, 2, 3, 4, 5, 6, 7, 8, 9, 10, 11, 12, 13]) (As := [.int (nI k)]) (rest := []) (c_requireSet l D cyI cyZ cyJ h b1 b2 hu u1 u2 u3 ht t1 t2 t3 hw l1 l2 wr hm u tr la k hbd hk) ⟨hx, hb, hown, hts⟩ gX2_cast_X2_requireSet rfl ⟨rfl, by decide, by decide, by decide +kernel⟩ ⟨Nat.le_of_ble_eq_true rfl, Nat.le_of_ble_eq_true rfl⟩ ⟨rfl, rfl⟩ hml hl.1 hK hP hD hS hA ⟨rfl, rfl, rfl, rfl, rfl, rfl, rfl⟩ rfl ⟨rfl, rfl⟩ rfl rfl (Nat.le_of_ble_eq_true rfl) ⟨Nat.zero_le _, Nat.zero_le _⟩ dX2_cast_2 (fun H locs hP hD hS => ?_)
  refine lv_aload_n hx hb dX2_cast_5 rfl (lv_at hl 0 rfl) ?_
  refine va_get (D := D) (ci := 2) (v := .ref hu) (C := RX2) (T := TX2) (N := 5) hx hb hts hi_RX2 hown hK hP 0 rfl rfl 2 (by decide) hf_21 (fun _ h9 => h9) rfl dX2_cast_6 ?_
  refine va_get (D := D) (ci := 0) (v := .ref u1) (C := RX0) (T := TX0) (N := 11) hx hb hts hi_RX0 hown hK hP 3 rfl rfl 2 (by decide) hf_87 (fun _ h9 => h9) rfl dX2_cast_9 ?_
  refine lv_iload_n hx hb dX2_cast_12 rfl (lv_at hl 1 rfl) ?_
  refine mq_ld (k := k) oI u.2.2.1 hx hb hK hP 4 0 rfl rfl (by have := cb_sc16 hbd; omega) (Nat.le_of_ble_eq_true rfl) dX2_cast_13 ?_
  rw [show oI (u.2.2.1 k) = nI q from (by rw [show u.2.2.1 k = some q from hln]; rfl)]
  refine lv_istore_n (lv' := [(2, .int (nI q)), (0, .ref h), (1, .int (nI k))]) hx hb dX2_cast_14 rfl hl (by decide) rfl (fun ls hl => ?_)
  refine lv_iload_n hx hb dX2_cast_15 rfl (lv_at hl 0 rfl) ?_
  refine lv_iconst (v := -1) hx hb dX2_cast_16 (by decide) ?_
  refine lv_icmp_ne (x := nI q) (y := -1) (tgt := 30) hx hb dX2_cast_17 (by decide) (fun c1 => ?_) (fun c1 => ?_)
  · refine lv_aload_n hx hb dX2_cast_30 rfl (lv_at hl 1 rfl) ?_
    refine va_get (D := D) (ci := 2) (v := .ref hu) (C := RX2) (T := TX2) (N := 5) hx hb hts hi_RX2 hown hK hP 0 rfl rfl 2 (by decide) hf_21 (fun _ h9 => h9) rfl dX2_cast_31 ?_
    refine lv_iload_n hx hb dX2_cast_34 rfl (lv_at hl 2 rfl) ?_
    refine CtV.callV (n := 1) (q0 := 0) (ci := 0) (wc := CBc cyI cyZ hu u1 u2 u3 (u.1, u.2.1, u.2.2.1, u.2.2.2.1, u.2.2.2.2.1, u.2.2.2.2.2.1, u.2.2.2.2.2.2.1, u.2.2.2.2.2.2.2.1, u.2.2.2.2.2.2.2.2.1, u.2.2.2.2.2.2.2.2.2.1, u.2.2.2.2.2.2.2.2.2.2)) (wr := (OBo cyI h b1 b2 hu ht hw wr hm) ++ ((CBc cyI cyZ ht t1 t2 t3 (tr.1, tr.2.1, tr.2.2.1, tr.2.2.2.1, tr.2.2.2.2.1, tr.2.2.2.2.2.1, tr.2.2.2.2.2.2.1, tr.2.2.2.2.2.2.2.1, tr.2.2.2.2.2.2.2.2.1, tr.2.2.2.2.2.2.2.2.2.1, tr.2.2.2.2.2.2.2.2.2.2)) ++ (LAc cyI cyZ hw l1 l2 (la.1, la.2.1, la.2.2.1, la.2.2.2)))) (w1 := CBc cyI cyZ hu u1 u2 u3 ((cb_throw k u).1, (cb_throw k u).2.1, (cb_throw k u).2.2.1, (cb_throw k u).2.2.2.1, (cb_throw k u).2.2.2.2.1, (cb_throw k u).2.2.2.2.2.1, (cb_throw k u).2.2.2.2.2.2.1, (cb_throw k u).2.2.2.2.2.2.2.1, (cb_throw k u).2.2.2.2.2.2.2.2.1, (cb_throw k u).2.2.2.2.2.2.2.2.2.1, (cb_throw k u).2.2.2.2.2.2.2.2.2.2)) (ws' := (OBo cyI h b1 b2 hu ht hw wr hm) ++ ((CBc cyI cyZ hu u1 u2 u3 ((cb_throw k u).1, (cb_throw k u).2.1, (cb_throw k u).2.2.1, (cb_throw k u).2.2.2.1, (cb_throw k u).2.2.2.2.1, (cb_throw k u).2.2.2.2.2.1, (cb_throw k u).2.2.2.2.2.2.1, (cb_throw k u).2.2.2.2.2.2.2.1, (cb_throw k u).2.2.2.2.2.2.2.2.1, (cb_throw k u).2.2.2.2.2.2.2.2.2.1, (cb_throw k u).2.2.2.2.2.2.2.2.2.2)) ++ ((CBc cyI cyZ ht t1 t2 t3 (tr.1, tr.2.1, tr.2.2.1, tr.2.2.2.1, tr.2.2.2.2.1, tr.2.2.2.2.2.1, tr.2.2.2.2.2.2.1, tr.2.2.2.2.2.2.2.1, tr.2.2.2.2.2.2.2.2.1, tr.2.2.2.2.2.2.2.2.2.1, tr.2.2.2.2.2.2.2.2.2.2)) ++ (LAc cyI cyZ hw l1 l2 (la.1, la.2.1, la.2.2.1, la.2.2.2))))) (isC := [3, 4, 5, 6]) (isR := [0, 1, 2, 7, 8, 9, 10, 11, 12, 13]) (ps := [0, 1, 2, 10, 11, 12, 13, 3, 4, 5, 6, 7, 8, 9]) (As := [.int (nI k)]) (rest := []) (c_throwU l D cyI cyZ cyJ hu u1 u2 u3 u k (by have := cb_sc16 hbd; omega) hbd) ⟨hx, hb, hown, hts⟩ gX2_cast_X0_throwOut rfl ⟨rfl, by decide, by decide, by decide +kernel⟩ ⟨Nat.le_of_ble_eq_true rfl, Nat.le_of_ble_eq_true rfl⟩ ⟨rfl, rfl⟩ hml hl.1 hK hP hD hS hA ⟨rfl, rfl, rfl, rfl, rfl, rfl, rfl⟩ rfl ⟨rfl, rfl⟩ rfl rfl (Nat.le_of_ble_eq_true rfl) ⟨Nat.zero_le _, Nat.zero_le _⟩ dX2_cast_35 (fun H locs hP hD hS => ?_)
    refine lv_iload_n hx hb dX2_cast_38 rfl (lv_at hl 0 rfl) ?_
    exact CtI.ret hQ hx hb hr hlk hK hP hD hS dX2_cast_39 rfl rfl
  · exact absurd c1 (nI_m1 (by have := cb_ln256 hbd hln; omega))
abbrev rmX2_sets : Room := { frames := 0, cells := 0, slots := 0, locals := 0 }
set_option maxRecDepth 100000 in
set_option maxHeartbeats 4000000 in
theorem c_sets (l : Launch) (D : va_G) (cyI cyZ cyJ : ClassId) (h b1 b2 hu u1 u2 u3 ht t1 t2 t3 hw l1 l2 : Nat) (wr hm : Nat → Int32) (u tr : CBu) (la : LAu)  : CtI l yX2_sets wsX2_sets rmX2_sets D (T3 cyI cyZ cyJ) [.ref h] ((OBo cyI h b1 b2 hu ht hw wr hm) ++ ((CBc cyI cyZ hu u1 u2 u3 u) ++ ((CBc cyI cyZ ht t1 t2 t3 tr) ++ (LAc cyI cyZ hw l1 l2 la)))) (nI u.1) ((OBo cyI h b1 b2 hu ht hw wr hm) ++ ((CBc cyI cyZ hu u1 u2 u3 u) ++ ((CBc cyI cyZ ht t1 t2 t3 tr) ++ (LAc cyI cyZ hw l1 l2 la)))) := by
  refine CtI.of (cc := cX2_sets) (maxL := 1) (ret := (some .int)) (lv0 := [(0, .ref h)]) (by decide) rfl (Nat.le_of_ble_eq_true rfl) rfl ?_
  intro p e s m below meth c A ls args Q hx hb hml hr hlk hts hown hK hP hA hD hS hl hQ
  have hP : va_P D vwCl ((OBo cyI h b1 b2 hu ht hw wr hm) ++ ((CBc cyI cyZ hu u1 u2 u3 (u.1, u.2.1, u.2.2.1, u.2.2.2.1, u.2.2.2.2.1, u.2.2.2.2.2.1, u.2.2.2.2.2.2.1, u.2.2.2.2.2.2.2.1, u.2.2.2.2.2.2.2.2.1, u.2.2.2.2.2.2.2.2.2.1, u.2.2.2.2.2.2.2.2.2.2)) ++ ((CBc cyI cyZ ht t1 t2 t3 (tr.1, tr.2.1, tr.2.2.1, tr.2.2.2.1, tr.2.2.2.2.1, tr.2.2.2.2.2.1, tr.2.2.2.2.2.2.1, tr.2.2.2.2.2.2.2.1, tr.2.2.2.2.2.2.2.2.1, tr.2.2.2.2.2.2.2.2.2.1, tr.2.2.2.2.2.2.2.2.2.2)) ++ (LAc cyI cyZ hw l1 l2 (la.1, la.2.1, la.2.2.1, la.2.2.2))))) s.heap := hP
  have hD : va_D A ((OBo cyI h b1 b2 hu ht hw wr hm) ++ ((CBc cyI cyZ hu u1 u2 u3 (u.1, u.2.1, u.2.2.1, u.2.2.2.1, u.2.2.2.2.1, u.2.2.2.2.2.1, u.2.2.2.2.2.2.1, u.2.2.2.2.2.2.2.1, u.2.2.2.2.2.2.2.2.1, u.2.2.2.2.2.2.2.2.2.1, u.2.2.2.2.2.2.2.2.2.2)) ++ ((CBc cyI cyZ ht t1 t2 t3 (tr.1, tr.2.1, tr.2.2.1, tr.2.2.2.1, tr.2.2.2.2.1, tr.2.2.2.2.2.1, tr.2.2.2.2.2.2.1, tr.2.2.2.2.2.2.2.1, tr.2.2.2.2.2.2.2.2.1, tr.2.2.2.2.2.2.2.2.2.1, tr.2.2.2.2.2.2.2.2.2.2)) ++ (LAc cyI cyZ hw l1 l2 (la.1, la.2.1, la.2.2.1, la.2.2.2))))) := hD
  have hown : s.vm.findClass RX2 = some m.cls := hown
  have hi_RX0 : ∀ w ∈ wsX00, w ∈ wsX2_sets := by decide +kernel
  have hi_RX2 : ∀ w ∈ wsX20, w ∈ wsX2_sets := by decide +kernel
  have hf_21 := hts (.fieldLink RX2 21 "OutcastBench" "actual" "LOutcastBench$CacheAndBench;") (by decide +kernel)
  have hf_98 := hts (.fieldLink RX2 98 "OutcastBench$CacheAndBench" "setCount" "I") (by decide +kernel)
  refine lv_aload_n hx hb dX2_sets_0 rfl (lv_at hl 0 rfl) ?_
  refine va_get (D := D) (ci := 2) (v := .ref hu) (C := RX2) (T := TX2) (N := 5) hx hb hts hi_RX2 hown hK hP 0 rfl rfl 2 (by decide) hf_21 (fun _ h9 => h9) rfl dX2_sets_1 ?_
  refine va_get (D := D) (ci := 0) (v := .int (nI u.1)) (C := RX0) (T := TX0) (N := 11) hx hb hts hi_RX0 hown hK hP 3 rfl rfl 0 (by decide) hf_98 (fun _ h9 => h9) rfl dX2_sets_4 ?_
  exact CtI.ret hQ hx hb hr hlk hK hP hD hS dX2_sets_7 rfl rfl
abbrev rmX2_places : Room := { frames := 0, cells := 0, slots := 0, locals := 0 }
set_option maxRecDepth 100000 in
set_option maxHeartbeats 4000000 in
theorem c_places (l : Launch) (D : va_G) (cyI cyZ cyJ : ClassId) (h b1 b2 hu u1 u2 u3 ht t1 t2 t3 hw l1 l2 : Nat) (wr hm : Nat → Int32) (u tr : CBu) (la : LAu)  : CtI l yX2_places wsX2_places rmX2_places D (T3 cyI cyZ cyJ) [.ref h] ((OBo cyI h b1 b2 hu ht hw wr hm) ++ ((CBc cyI cyZ hu u1 u2 u3 u) ++ ((CBc cyI cyZ ht t1 t2 t3 tr) ++ (LAc cyI cyZ hw l1 l2 la)))) (nI u.2.1) ((OBo cyI h b1 b2 hu ht hw wr hm) ++ ((CBc cyI cyZ hu u1 u2 u3 u) ++ ((CBc cyI cyZ ht t1 t2 t3 tr) ++ (LAc cyI cyZ hw l1 l2 la)))) := by
  refine CtI.of (cc := cX2_places) (maxL := 1) (ret := (some .int)) (lv0 := [(0, .ref h)]) (by decide) rfl (Nat.le_of_ble_eq_true rfl) rfl ?_
  intro p e s m below meth c A ls args Q hx hb hml hr hlk hts hown hK hP hA hD hS hl hQ
  have hP : va_P D vwCl ((OBo cyI h b1 b2 hu ht hw wr hm) ++ ((CBc cyI cyZ hu u1 u2 u3 (u.1, u.2.1, u.2.2.1, u.2.2.2.1, u.2.2.2.2.1, u.2.2.2.2.2.1, u.2.2.2.2.2.2.1, u.2.2.2.2.2.2.2.1, u.2.2.2.2.2.2.2.2.1, u.2.2.2.2.2.2.2.2.2.1, u.2.2.2.2.2.2.2.2.2.2)) ++ ((CBc cyI cyZ ht t1 t2 t3 (tr.1, tr.2.1, tr.2.2.1, tr.2.2.2.1, tr.2.2.2.2.1, tr.2.2.2.2.2.1, tr.2.2.2.2.2.2.1, tr.2.2.2.2.2.2.2.1, tr.2.2.2.2.2.2.2.2.1, tr.2.2.2.2.2.2.2.2.2.1, tr.2.2.2.2.2.2.2.2.2.2)) ++ (LAc cyI cyZ hw l1 l2 (la.1, la.2.1, la.2.2.1, la.2.2.2))))) s.heap := hP
  have hD : va_D A ((OBo cyI h b1 b2 hu ht hw wr hm) ++ ((CBc cyI cyZ hu u1 u2 u3 (u.1, u.2.1, u.2.2.1, u.2.2.2.1, u.2.2.2.2.1, u.2.2.2.2.2.1, u.2.2.2.2.2.2.1, u.2.2.2.2.2.2.2.1, u.2.2.2.2.2.2.2.2.1, u.2.2.2.2.2.2.2.2.2.1, u.2.2.2.2.2.2.2.2.2.2)) ++ ((CBc cyI cyZ ht t1 t2 t3 (tr.1, tr.2.1, tr.2.2.1, tr.2.2.2.1, tr.2.2.2.2.1, tr.2.2.2.2.2.1, tr.2.2.2.2.2.2.1, tr.2.2.2.2.2.2.2.1, tr.2.2.2.2.2.2.2.2.1, tr.2.2.2.2.2.2.2.2.2.1, tr.2.2.2.2.2.2.2.2.2.2)) ++ (LAc cyI cyZ hw l1 l2 (la.1, la.2.1, la.2.2.1, la.2.2.2))))) := hD
  have hown : s.vm.findClass RX2 = some m.cls := hown
  have hi_RX0 : ∀ w ∈ wsX00, w ∈ wsX2_places := by decide +kernel
  have hi_RX2 : ∀ w ∈ wsX20, w ∈ wsX2_places := by decide +kernel
  have hf_21 := hts (.fieldLink RX2 21 "OutcastBench" "actual" "LOutcastBench$CacheAndBench;") (by decide +kernel)
  have hf_101 := hts (.fieldLink RX2 101 "OutcastBench$CacheAndBench" "placeCount" "I") (by decide +kernel)
  refine lv_aload_n hx hb dX2_places_0 rfl (lv_at hl 0 rfl) ?_
  refine va_get (D := D) (ci := 2) (v := .ref hu) (C := RX2) (T := TX2) (N := 5) hx hb hts hi_RX2 hown hK hP 0 rfl rfl 2 (by decide) hf_21 (fun _ h9 => h9) rfl dX2_places_1 ?_
  refine va_get (D := D) (ci := 0) (v := .int (nI u.2.1)) (C := RX0) (T := TX0) (N := 11) hx hb hts hi_RX0 hown hK hP 3 rfl rfl 1 (by decide) hf_101 (fun _ h9 => h9) rfl dX2_places_4 ?_
  exact CtI.ret hQ hx hb hr hlk hK hP hD hS dX2_places_7 rfl rfl
abbrev rmX2_sitting : Room := { frames := 0, cells := 0, slots := 0, locals := 0 }
set_option maxRecDepth 100000 in
set_option maxHeartbeats 4000000 in
theorem c_sitting (l : Launch) (D : va_G) (cyI cyZ cyJ : ClassId) (h b1 b2 hu u1 u2 u3 ht t1 t2 t3 hw l1 l2 : Nat) (wr hm : Nat → Int32) (u tr : CBu) (la : LAu)  : CtI l yX2_sitting wsX2_sitting rmX2_sitting D (T3 cyI cyZ cyJ) [.ref h] ((OBo cyI h b1 b2 hu ht hw wr hm) ++ ((CBc cyI cyZ hu u1 u2 u3 u) ++ ((CBc cyI cyZ ht t1 t2 t3 tr) ++ (LAc cyI cyZ hw l1 l2 la)))) (nI u.2.2.2.2.1) ((OBo cyI h b1 b2 hu ht hw wr hm) ++ ((CBc cyI cyZ hu u1 u2 u3 u) ++ ((CBc cyI cyZ ht t1 t2 t3 tr) ++ (LAc cyI cyZ hw l1 l2 la)))) := by
  refine CtI.of (cc := cX2_sitting) (maxL := 1) (ret := (some .int)) (lv0 := [(0, .ref h)]) (by decide) rfl (Nat.le_of_ble_eq_true rfl) rfl ?_
  intro p e s m below meth c A ls args Q hx hb hml hr hlk hts hown hK hP hA hD hS hl hQ
  have hP : va_P D vwCl ((OBo cyI h b1 b2 hu ht hw wr hm) ++ ((CBc cyI cyZ hu u1 u2 u3 (u.1, u.2.1, u.2.2.1, u.2.2.2.1, u.2.2.2.2.1, u.2.2.2.2.2.1, u.2.2.2.2.2.2.1, u.2.2.2.2.2.2.2.1, u.2.2.2.2.2.2.2.2.1, u.2.2.2.2.2.2.2.2.2.1, u.2.2.2.2.2.2.2.2.2.2)) ++ ((CBc cyI cyZ ht t1 t2 t3 (tr.1, tr.2.1, tr.2.2.1, tr.2.2.2.1, tr.2.2.2.2.1, tr.2.2.2.2.2.1, tr.2.2.2.2.2.2.1, tr.2.2.2.2.2.2.2.1, tr.2.2.2.2.2.2.2.2.1, tr.2.2.2.2.2.2.2.2.2.1, tr.2.2.2.2.2.2.2.2.2.2)) ++ (LAc cyI cyZ hw l1 l2 (la.1, la.2.1, la.2.2.1, la.2.2.2))))) s.heap := hP
  have hD : va_D A ((OBo cyI h b1 b2 hu ht hw wr hm) ++ ((CBc cyI cyZ hu u1 u2 u3 (u.1, u.2.1, u.2.2.1, u.2.2.2.1, u.2.2.2.2.1, u.2.2.2.2.2.1, u.2.2.2.2.2.2.1, u.2.2.2.2.2.2.2.1, u.2.2.2.2.2.2.2.2.1, u.2.2.2.2.2.2.2.2.2.1, u.2.2.2.2.2.2.2.2.2.2)) ++ ((CBc cyI cyZ ht t1 t2 t3 (tr.1, tr.2.1, tr.2.2.1, tr.2.2.2.1, tr.2.2.2.2.1, tr.2.2.2.2.2.1, tr.2.2.2.2.2.2.1, tr.2.2.2.2.2.2.2.1, tr.2.2.2.2.2.2.2.2.1, tr.2.2.2.2.2.2.2.2.2.1, tr.2.2.2.2.2.2.2.2.2.2)) ++ (LAc cyI cyZ hw l1 l2 (la.1, la.2.1, la.2.2.1, la.2.2.2))))) := hD
  have hown : s.vm.findClass RX2 = some m.cls := hown
  have hi_RX0 : ∀ w ∈ wsX00, w ∈ wsX2_sitting := by decide +kernel
  have hi_RX2 : ∀ w ∈ wsX20, w ∈ wsX2_sitting := by decide +kernel
  have hf_21 := hts (.fieldLink RX2 21 "OutcastBench" "actual" "LOutcastBench$CacheAndBench;") (by decide +kernel)
  have hf_104 := hts (.fieldLink RX2 104 "OutcastBench$CacheAndBench" "seated" "I") (by decide +kernel)
  refine lv_aload_n hx hb dX2_sitting_0 rfl (lv_at hl 0 rfl) ?_
  refine va_get (D := D) (ci := 2) (v := .ref hu) (C := RX2) (T := TX2) (N := 5) hx hb hts hi_RX2 hown hK hP 0 rfl rfl 2 (by decide) hf_21 (fun _ h9 => h9) rfl dX2_sitting_1 ?_
  refine va_get (D := D) (ci := 0) (v := .int (nI u.2.2.2.2.1)) (C := RX0) (T := TX0) (N := 11) hx hb hts hi_RX0 hown hK hP 3 rfl rfl 4 (by decide) hf_104 (fun _ h9 => h9) rfl dX2_sitting_4 ?_
  exact CtI.ret hQ hx hb hr hlk hK hP hD hS dX2_sitting_7 rfl rfl
abbrev rmX2_hits : Room := { frames := 0, cells := 0, slots := 0, locals := 0 }
set_option maxRecDepth 100000 in
set_option maxHeartbeats 4000000 in
theorem c_hits (l : Launch) (D : va_G) (cyI cyZ cyJ : ClassId) (h b1 b2 hu u1 u2 u3 ht t1 t2 t3 hw l1 l2 : Nat) (wr hm : Nat → Int32) (u tr : CBu) (la : LAu)  : CtI l yX2_hits wsX2_hits rmX2_hits D (T3 cyI cyZ cyJ) [.ref h] ((OBo cyI h b1 b2 hu ht hw wr hm) ++ ((CBc cyI cyZ hu u1 u2 u3 u) ++ ((CBc cyI cyZ ht t1 t2 t3 tr) ++ (LAc cyI cyZ hw l1 l2 la)))) (u.2.2.2.2.2.2.1) ((OBo cyI h b1 b2 hu ht hw wr hm) ++ ((CBc cyI cyZ hu u1 u2 u3 u) ++ ((CBc cyI cyZ ht t1 t2 t3 tr) ++ (LAc cyI cyZ hw l1 l2 la)))) := by
  refine CtI.of (cc := cX2_hits) (maxL := 1) (ret := (some .int)) (lv0 := [(0, .ref h)]) (by decide) rfl (Nat.le_of_ble_eq_true rfl) rfl ?_
  intro p e s m below meth c A ls args Q hx hb hml hr hlk hts hown hK hP hA hD hS hl hQ
  have hP : va_P D vwCl ((OBo cyI h b1 b2 hu ht hw wr hm) ++ ((CBc cyI cyZ hu u1 u2 u3 (u.1, u.2.1, u.2.2.1, u.2.2.2.1, u.2.2.2.2.1, u.2.2.2.2.2.1, u.2.2.2.2.2.2.1, u.2.2.2.2.2.2.2.1, u.2.2.2.2.2.2.2.2.1, u.2.2.2.2.2.2.2.2.2.1, u.2.2.2.2.2.2.2.2.2.2)) ++ ((CBc cyI cyZ ht t1 t2 t3 (tr.1, tr.2.1, tr.2.2.1, tr.2.2.2.1, tr.2.2.2.2.1, tr.2.2.2.2.2.1, tr.2.2.2.2.2.2.1, tr.2.2.2.2.2.2.2.1, tr.2.2.2.2.2.2.2.2.1, tr.2.2.2.2.2.2.2.2.2.1, tr.2.2.2.2.2.2.2.2.2.2)) ++ (LAc cyI cyZ hw l1 l2 (la.1, la.2.1, la.2.2.1, la.2.2.2))))) s.heap := hP
  have hD : va_D A ((OBo cyI h b1 b2 hu ht hw wr hm) ++ ((CBc cyI cyZ hu u1 u2 u3 (u.1, u.2.1, u.2.2.1, u.2.2.2.1, u.2.2.2.2.1, u.2.2.2.2.2.1, u.2.2.2.2.2.2.1, u.2.2.2.2.2.2.2.1, u.2.2.2.2.2.2.2.2.1, u.2.2.2.2.2.2.2.2.2.1, u.2.2.2.2.2.2.2.2.2.2)) ++ ((CBc cyI cyZ ht t1 t2 t3 (tr.1, tr.2.1, tr.2.2.1, tr.2.2.2.1, tr.2.2.2.2.1, tr.2.2.2.2.2.1, tr.2.2.2.2.2.2.1, tr.2.2.2.2.2.2.2.1, tr.2.2.2.2.2.2.2.2.1, tr.2.2.2.2.2.2.2.2.2.1, tr.2.2.2.2.2.2.2.2.2.2)) ++ (LAc cyI cyZ hw l1 l2 (la.1, la.2.1, la.2.2.1, la.2.2.2))))) := hD
  have hown : s.vm.findClass RX2 = some m.cls := hown
  have hi_RX0 : ∀ w ∈ wsX00, w ∈ wsX2_hits := by decide +kernel
  have hi_RX2 : ∀ w ∈ wsX20, w ∈ wsX2_hits := by decide +kernel
  have hf_21 := hts (.fieldLink RX2 21 "OutcastBench" "actual" "LOutcastBench$CacheAndBench;") (by decide +kernel)
  have hf_124 := hts (.fieldLink RX2 124 "OutcastBench$CacheAndBench" "hitCount" "I") (by decide +kernel)
  refine lv_aload_n hx hb dX2_hits_0 rfl (lv_at hl 0 rfl) ?_
  refine va_get (D := D) (ci := 2) (v := .ref hu) (C := RX2) (T := TX2) (N := 5) hx hb hts hi_RX2 hown hK hP 0 rfl rfl 2 (by decide) hf_21 (fun _ h9 => h9) rfl dX2_hits_1 ?_
  refine va_get (D := D) (ci := 0) (v := .int u.2.2.2.2.2.2.1) (C := RX0) (T := TX0) (N := 11) hx hb hts hi_RX0 hown hK hP 3 rfl rfl 6 (by decide) hf_124 (fun _ h9 => h9) rfl dX2_hits_4 ?_
  exact CtI.ret hQ hx hb hr hlk hK hP hD hS dX2_hits_7 rfl rfl
abbrev rmX2_swaps : Room := { frames := 0, cells := 0, slots := 0, locals := 0 }
set_option maxRecDepth 100000 in
set_option maxHeartbeats 4000000 in
theorem c_swaps (l : Launch) (D : va_G) (cyI cyZ cyJ : ClassId) (h b1 b2 hu u1 u2 u3 ht t1 t2 t3 hw l1 l2 : Nat) (wr hm : Nat → Int32) (u tr : CBu) (la : LAu)  : CtI l yX2_swaps wsX2_swaps rmX2_swaps D (T3 cyI cyZ cyJ) [.ref h] ((OBo cyI h b1 b2 hu ht hw wr hm) ++ ((CBc cyI cyZ hu u1 u2 u3 u) ++ ((CBc cyI cyZ ht t1 t2 t3 tr) ++ (LAc cyI cyZ hw l1 l2 la)))) (u.2.2.2.2.2.2.2.1) ((OBo cyI h b1 b2 hu ht hw wr hm) ++ ((CBc cyI cyZ hu u1 u2 u3 u) ++ ((CBc cyI cyZ ht t1 t2 t3 tr) ++ (LAc cyI cyZ hw l1 l2 la)))) := by
  refine CtI.of (cc := cX2_swaps) (maxL := 1) (ret := (some .int)) (lv0 := [(0, .ref h)]) (by decide) rfl (Nat.le_of_ble_eq_true rfl) rfl ?_
  intro p e s m below meth c A ls args Q hx hb hml hr hlk hts hown hK hP hA hD hS hl hQ
  have hP : va_P D vwCl ((OBo cyI h b1 b2 hu ht hw wr hm) ++ ((CBc cyI cyZ hu u1 u2 u3 (u.1, u.2.1, u.2.2.1, u.2.2.2.1, u.2.2.2.2.1, u.2.2.2.2.2.1, u.2.2.2.2.2.2.1, u.2.2.2.2.2.2.2.1, u.2.2.2.2.2.2.2.2.1, u.2.2.2.2.2.2.2.2.2.1, u.2.2.2.2.2.2.2.2.2.2)) ++ ((CBc cyI cyZ ht t1 t2 t3 (tr.1, tr.2.1, tr.2.2.1, tr.2.2.2.1, tr.2.2.2.2.1, tr.2.2.2.2.2.1, tr.2.2.2.2.2.2.1, tr.2.2.2.2.2.2.2.1, tr.2.2.2.2.2.2.2.2.1, tr.2.2.2.2.2.2.2.2.2.1, tr.2.2.2.2.2.2.2.2.2.2)) ++ (LAc cyI cyZ hw l1 l2 (la.1, la.2.1, la.2.2.1, la.2.2.2))))) s.heap := hP
  have hD : va_D A ((OBo cyI h b1 b2 hu ht hw wr hm) ++ ((CBc cyI cyZ hu u1 u2 u3 (u.1, u.2.1, u.2.2.1, u.2.2.2.1, u.2.2.2.2.1, u.2.2.2.2.2.1, u.2.2.2.2.2.2.1, u.2.2.2.2.2.2.2.1, u.2.2.2.2.2.2.2.2.1, u.2.2.2.2.2.2.2.2.2.1, u.2.2.2.2.2.2.2.2.2.2)) ++ ((CBc cyI cyZ ht t1 t2 t3 (tr.1, tr.2.1, tr.2.2.1, tr.2.2.2.1, tr.2.2.2.2.1, tr.2.2.2.2.2.1, tr.2.2.2.2.2.2.1, tr.2.2.2.2.2.2.2.1, tr.2.2.2.2.2.2.2.2.1, tr.2.2.2.2.2.2.2.2.2.1, tr.2.2.2.2.2.2.2.2.2.2)) ++ (LAc cyI cyZ hw l1 l2 (la.1, la.2.1, la.2.2.1, la.2.2.2))))) := hD
  have hown : s.vm.findClass RX2 = some m.cls := hown
  have hi_RX0 : ∀ w ∈ wsX00, w ∈ wsX2_swaps := by decide +kernel
  have hi_RX2 : ∀ w ∈ wsX20, w ∈ wsX2_swaps := by decide +kernel
  have hf_21 := hts (.fieldLink RX2 21 "OutcastBench" "actual" "LOutcastBench$CacheAndBench;") (by decide +kernel)
  have hf_127 := hts (.fieldLink RX2 127 "OutcastBench$CacheAndBench" "swapCount" "I") (by decide +kernel)
  refine lv_aload_n hx hb dX2_swaps_0 rfl (lv_at hl 0 rfl) ?_
  refine va_get (D := D) (ci := 2) (v := .ref hu) (C := RX2) (T := TX2) (N := 5) hx hb hts hi_RX2 hown hK hP 0 rfl rfl 2 (by decide) hf_21 (fun _ h9 => h9) rfl dX2_swaps_1 ?_
  refine va_get (D := D) (ci := 0) (v := .int u.2.2.2.2.2.2.2.1) (C := RX0) (T := TX0) (N := 11) hx hb hts hi_RX0 hown hK hP 3 rfl rfl 7 (by decide) hf_127 (fun _ h9 => h9) rfl dX2_swaps_4 ?_
  exact CtI.ret hQ hx hb hr hlk hK hP hD hS dX2_swaps_7 rfl rfl
abbrev rmX2_misses : Room := { frames := 0, cells := 0, slots := 0, locals := 0 }
set_option maxRecDepth 100000 in
set_option maxHeartbeats 4000000 in
theorem c_misses (l : Launch) (D : va_G) (cyI cyZ cyJ : ClassId) (h b1 b2 hu u1 u2 u3 ht t1 t2 t3 hw l1 l2 : Nat) (wr hm : Nat → Int32) (u tr : CBu) (la : LAu)  : CtI l yX2_misses wsX2_misses rmX2_misses D (T3 cyI cyZ cyJ) [.ref h] ((OBo cyI h b1 b2 hu ht hw wr hm) ++ ((CBc cyI cyZ hu u1 u2 u3 u) ++ ((CBc cyI cyZ ht t1 t2 t3 tr) ++ (LAc cyI cyZ hw l1 l2 la)))) (u.2.2.2.2.2.2.2.2.1) ((OBo cyI h b1 b2 hu ht hw wr hm) ++ ((CBc cyI cyZ hu u1 u2 u3 u) ++ ((CBc cyI cyZ ht t1 t2 t3 tr) ++ (LAc cyI cyZ hw l1 l2 la)))) := by
  refine CtI.of (cc := cX2_misses) (maxL := 1) (ret := (some .int)) (lv0 := [(0, .ref h)]) (by decide) rfl (Nat.le_of_ble_eq_true rfl) rfl ?_
  intro p e s m below meth c A ls args Q hx hb hml hr hlk hts hown hK hP hA hD hS hl hQ
  have hP : va_P D vwCl ((OBo cyI h b1 b2 hu ht hw wr hm) ++ ((CBc cyI cyZ hu u1 u2 u3 (u.1, u.2.1, u.2.2.1, u.2.2.2.1, u.2.2.2.2.1, u.2.2.2.2.2.1, u.2.2.2.2.2.2.1, u.2.2.2.2.2.2.2.1, u.2.2.2.2.2.2.2.2.1, u.2.2.2.2.2.2.2.2.2.1, u.2.2.2.2.2.2.2.2.2.2)) ++ ((CBc cyI cyZ ht t1 t2 t3 (tr.1, tr.2.1, tr.2.2.1, tr.2.2.2.1, tr.2.2.2.2.1, tr.2.2.2.2.2.1, tr.2.2.2.2.2.2.1, tr.2.2.2.2.2.2.2.1, tr.2.2.2.2.2.2.2.2.1, tr.2.2.2.2.2.2.2.2.2.1, tr.2.2.2.2.2.2.2.2.2.2)) ++ (LAc cyI cyZ hw l1 l2 (la.1, la.2.1, la.2.2.1, la.2.2.2))))) s.heap := hP
  have hD : va_D A ((OBo cyI h b1 b2 hu ht hw wr hm) ++ ((CBc cyI cyZ hu u1 u2 u3 (u.1, u.2.1, u.2.2.1, u.2.2.2.1, u.2.2.2.2.1, u.2.2.2.2.2.1, u.2.2.2.2.2.2.1, u.2.2.2.2.2.2.2.1, u.2.2.2.2.2.2.2.2.1, u.2.2.2.2.2.2.2.2.2.1, u.2.2.2.2.2.2.2.2.2.2)) ++ ((CBc cyI cyZ ht t1 t2 t3 (tr.1, tr.2.1, tr.2.2.1, tr.2.2.2.1, tr.2.2.2.2.1, tr.2.2.2.2.2.1, tr.2.2.2.2.2.2.1, tr.2.2.2.2.2.2.2.1, tr.2.2.2.2.2.2.2.2.1, tr.2.2.2.2.2.2.2.2.2.1, tr.2.2.2.2.2.2.2.2.2.2)) ++ (LAc cyI cyZ hw l1 l2 (la.1, la.2.1, la.2.2.1, la.2.2.2))))) := hD
  have hown : s.vm.findClass RX2 = some m.cls := hown
  have hi_RX0 : ∀ w ∈ wsX00, w ∈ wsX2_misses := by decide +kernel
  have hi_RX2 : ∀ w ∈ wsX20, w ∈ wsX2_misses := by decide +kernel
  have hf_21 := hts (.fieldLink RX2 21 "OutcastBench" "actual" "LOutcastBench$CacheAndBench;") (by decide +kernel)
  have hf_130 := hts (.fieldLink RX2 130 "OutcastBench$CacheAndBench" "missCount" "I") (by decide +kernel)
  refine lv_aload_n hx hb dX2_misses_0 rfl (lv_at hl 0 rfl) ?_
  refine va_get (D := D) (ci := 2) (v := .ref hu) (C := RX2) (T := TX2) (N := 5) hx hb hts hi_RX2 hown hK hP 0 rfl rfl 2 (by decide) hf_21 (fun _ h9 => h9) rfl dX2_misses_1 ?_
  refine va_get (D := D) (ci := 0) (v := .int u.2.2.2.2.2.2.2.2.1) (C := RX0) (T := TX0) (N := 11) hx hb hts hi_RX0 hown hK hP 3 rfl rfl 8 (by decide) hf_130 (fun _ h9 => h9) rfl dX2_misses_4 ?_
  exact CtI.ret hQ hx hb hr hlk hK hP hD hS dX2_misses_7 rfl rfl
abbrev rmX2_homecomings : Room := { frames := 0, cells := 0, slots := 0, locals := 0 }
set_option maxRecDepth 100000 in
set_option maxHeartbeats 4000000 in
theorem c_homecomings (l : Launch) (D : va_G) (cyI cyZ cyJ : ClassId) (h b1 b2 hu u1 u2 u3 ht t1 t2 t3 hw l1 l2 : Nat) (wr hm : Nat → Int32) (u tr : CBu) (la : LAu)  : CtI l yX2_homecomings wsX2_homecomings rmX2_homecomings D (T3 cyI cyZ cyJ) [.ref h] ((OBo cyI h b1 b2 hu ht hw wr hm) ++ ((CBc cyI cyZ hu u1 u2 u3 u) ++ ((CBc cyI cyZ ht t1 t2 t3 tr) ++ (LAc cyI cyZ hw l1 l2 la)))) (cb_hc u) ((OBo cyI h b1 b2 hu ht hw wr hm) ++ ((CBc cyI cyZ hu u1 u2 u3 u) ++ ((CBc cyI cyZ ht t1 t2 t3 tr) ++ (LAc cyI cyZ hw l1 l2 la)))) := by
  refine CtI.of (cc := cX2_homecomings) (maxL := 1) (ret := (some .int)) (lv0 := [(0, .ref h)]) (by decide) rfl (Nat.le_of_ble_eq_true rfl) rfl ?_
  intro p e s m below meth c A ls args Q hx hb hml hr hlk hts hown hK hP hA hD hS hl hQ
  have hP : va_P D vwCl ((OBo cyI h b1 b2 hu ht hw wr hm) ++ ((CBc cyI cyZ hu u1 u2 u3 (u.1, u.2.1, u.2.2.1, u.2.2.2.1, u.2.2.2.2.1, u.2.2.2.2.2.1, u.2.2.2.2.2.2.1, u.2.2.2.2.2.2.2.1, u.2.2.2.2.2.2.2.2.1, u.2.2.2.2.2.2.2.2.2.1, u.2.2.2.2.2.2.2.2.2.2)) ++ ((CBc cyI cyZ ht t1 t2 t3 (tr.1, tr.2.1, tr.2.2.1, tr.2.2.2.1, tr.2.2.2.2.1, tr.2.2.2.2.2.1, tr.2.2.2.2.2.2.1, tr.2.2.2.2.2.2.2.1, tr.2.2.2.2.2.2.2.2.1, tr.2.2.2.2.2.2.2.2.2.1, tr.2.2.2.2.2.2.2.2.2.2)) ++ (LAc cyI cyZ hw l1 l2 (la.1, la.2.1, la.2.2.1, la.2.2.2))))) s.heap := hP
  have hD : va_D A ((OBo cyI h b1 b2 hu ht hw wr hm) ++ ((CBc cyI cyZ hu u1 u2 u3 (u.1, u.2.1, u.2.2.1, u.2.2.2.1, u.2.2.2.2.1, u.2.2.2.2.2.1, u.2.2.2.2.2.2.1, u.2.2.2.2.2.2.2.1, u.2.2.2.2.2.2.2.2.1, u.2.2.2.2.2.2.2.2.2.1, u.2.2.2.2.2.2.2.2.2.2)) ++ ((CBc cyI cyZ ht t1 t2 t3 (tr.1, tr.2.1, tr.2.2.1, tr.2.2.2.1, tr.2.2.2.2.1, tr.2.2.2.2.2.1, tr.2.2.2.2.2.2.1, tr.2.2.2.2.2.2.2.1, tr.2.2.2.2.2.2.2.2.1, tr.2.2.2.2.2.2.2.2.2.1, tr.2.2.2.2.2.2.2.2.2.2)) ++ (LAc cyI cyZ hw l1 l2 (la.1, la.2.1, la.2.2.1, la.2.2.2))))) := hD
  have hown : s.vm.findClass RX2 = some m.cls := hown
  have hi_RX0 : ∀ w ∈ wsX00, w ∈ wsX2_homecomings := by decide +kernel
  have hi_RX2 : ∀ w ∈ wsX20, w ∈ wsX2_homecomings := by decide +kernel
  have hf_21 := hts (.fieldLink RX2 21 "OutcastBench" "actual" "LOutcastBench$CacheAndBench;") (by decide +kernel)
  have hf_133 := hts (.fieldLink RX2 133 "OutcastBench$CacheAndBench" "homecomingCount" "I") (by decide +kernel)
  refine lv_aload_n hx hb dX2_homecomings_0 rfl (lv_at hl 0 rfl) ?_
  refine va_get (D := D) (ci := 2) (v := .ref hu) (C := RX2) (T := TX2) (N := 5) hx hb hts hi_RX2 hown hK hP 0 rfl rfl 2 (by decide) hf_21 (fun _ h9 => h9) rfl dX2_homecomings_1 ?_
  refine va_get (D := D) (ci := 0) (v := .int u.2.2.2.2.2.2.2.2.2.1) (C := RX0) (T := TX0) (N := 11) hx hb hts hi_RX0 hown hK hP 3 rfl rfl 9 (by decide) hf_133 (fun _ h9 => h9) rfl dX2_homecomings_4 ?_
  exact CtI.ret hQ hx hb hr hlk hK hP hD hS dX2_homecomings_7 rfl rfl
abbrev rmX2_cost : Room := { frames := 0, cells := 0, slots := 0, locals := 0 }
set_option maxRecDepth 100000 in
set_option maxHeartbeats 4000000 in
theorem c_cost (l : Launch) (D : va_G) (cyI cyZ cyJ : ClassId) (h b1 b2 hu u1 u2 u3 ht t1 t2 t3 hw l1 l2 : Nat) (wr hm : Nat → Int32) (u tr : CBu) (la : LAu)  : CtI l yX2_cost wsX2_cost rmX2_cost D (T3 cyI cyZ cyJ) [.ref h] ((OBo cyI h b1 b2 hu ht hw wr hm) ++ ((CBc cyI cyZ hu u1 u2 u3 u) ++ ((CBc cyI cyZ ht t1 t2 t3 tr) ++ (LAc cyI cyZ hw l1 l2 la)))) (cb_co u) ((OBo cyI h b1 b2 hu ht hw wr hm) ++ ((CBc cyI cyZ hu u1 u2 u3 u) ++ ((CBc cyI cyZ ht t1 t2 t3 tr) ++ (LAc cyI cyZ hw l1 l2 la)))) := by
  refine CtI.of (cc := cX2_cost) (maxL := 1) (ret := (some .int)) (lv0 := [(0, .ref h)]) (by decide) rfl (Nat.le_of_ble_eq_true rfl) rfl ?_
  intro p e s m below meth c A ls args Q hx hb hml hr hlk hts hown hK hP hA hD hS hl hQ
  have hP : va_P D vwCl ((OBo cyI h b1 b2 hu ht hw wr hm) ++ ((CBc cyI cyZ hu u1 u2 u3 (u.1, u.2.1, u.2.2.1, u.2.2.2.1, u.2.2.2.2.1, u.2.2.2.2.2.1, u.2.2.2.2.2.2.1, u.2.2.2.2.2.2.2.1, u.2.2.2.2.2.2.2.2.1, u.2.2.2.2.2.2.2.2.2.1, u.2.2.2.2.2.2.2.2.2.2)) ++ ((CBc cyI cyZ ht t1 t2 t3 (tr.1, tr.2.1, tr.2.2.1, tr.2.2.2.1, tr.2.2.2.2.1, tr.2.2.2.2.2.1, tr.2.2.2.2.2.2.1, tr.2.2.2.2.2.2.2.1, tr.2.2.2.2.2.2.2.2.1, tr.2.2.2.2.2.2.2.2.2.1, tr.2.2.2.2.2.2.2.2.2.2)) ++ (LAc cyI cyZ hw l1 l2 (la.1, la.2.1, la.2.2.1, la.2.2.2))))) s.heap := hP
  have hD : va_D A ((OBo cyI h b1 b2 hu ht hw wr hm) ++ ((CBc cyI cyZ hu u1 u2 u3 (u.1, u.2.1, u.2.2.1, u.2.2.2.1, u.2.2.2.2.1, u.2.2.2.2.2.1, u.2.2.2.2.2.2.1, u.2.2.2.2.2.2.2.1, u.2.2.2.2.2.2.2.2.1, u.2.2.2.2.2.2.2.2.2.1, u.2.2.2.2.2.2.2.2.2.2)) ++ ((CBc cyI cyZ ht t1 t2 t3 (tr.1, tr.2.1, tr.2.2.1, tr.2.2.2.1, tr.2.2.2.2.1, tr.2.2.2.2.2.1, tr.2.2.2.2.2.2.1, tr.2.2.2.2.2.2.2.1, tr.2.2.2.2.2.2.2.2.1, tr.2.2.2.2.2.2.2.2.2.1, tr.2.2.2.2.2.2.2.2.2.2)) ++ (LAc cyI cyZ hw l1 l2 (la.1, la.2.1, la.2.2.1, la.2.2.2))))) := hD
  have hown : s.vm.findClass RX2 = some m.cls := hown
  have hi_RX0 : ∀ w ∈ wsX00, w ∈ wsX2_cost := by decide +kernel
  have hi_RX2 : ∀ w ∈ wsX20, w ∈ wsX2_cost := by decide +kernel
  have hf_21 := hts (.fieldLink RX2 21 "OutcastBench" "actual" "LOutcastBench$CacheAndBench;") (by decide +kernel)
  have hf_61 := hts (.fieldLink RX2 61 "OutcastBench$CacheAndBench" "costSoFar" "I") (by decide +kernel)
  refine lv_aload_n hx hb dX2_cost_0 rfl (lv_at hl 0 rfl) ?_
  refine va_get (D := D) (ci := 2) (v := .ref hu) (C := RX2) (T := TX2) (N := 5) hx hb hts hi_RX2 hown hK hP 0 rfl rfl 2 (by decide) hf_21 (fun _ h9 => h9) rfl dX2_cost_1 ?_
  refine va_get (D := D) (ci := 0) (v := .int u.2.2.2.2.2.2.2.2.2.2) (C := RX0) (T := TX0) (N := 11) hx hb hts hi_RX0 hown hK hP 3 rfl rfl 10 (by decide) hf_61 (fun _ h9 => h9) rfl dX2_cost_4 ?_
  exact CtI.ret hQ hx hb hr hlk hK hP hD hS dX2_cost_7 rfl rfl
abbrev rmX2_lineIn : Room := { frames := 1, cells := 0, slots := 0, locals := 21 }
set_option maxRecDepth 100000 in
set_option maxHeartbeats 4000000 in
theorem c_lineIn (l : Launch) (D : va_G) (cyI cyZ cyJ : ClassId) (h b1 b2 hu u1 u2 u3 ht t1 t2 t3 hw l1 l2 : Nat) (wr hm : Nat → Int32) (u tr : CBu) (la : LAu) (k : Nat) (hbd : cb_bd u) (hk : k < u.1) : CtI l yX2_lineIn wsX2_lineIn rmX2_lineIn D (T3 cyI cyZ cyJ) [.ref h, .int (nI k)] ((OBo cyI h b1 b2 hu ht hw wr hm) ++ ((CBc cyI cyZ hu u1 u2 u3 u) ++ ((CBc cyI cyZ ht t1 t2 t3 tr) ++ (LAc cyI cyZ hw l1 l2 la)))) (oI (cb_ln u k)) ((OBo cyI h b1 b2 hu ht hw wr hm) ++ ((CBc cyI cyZ hu u1 u2 u3 u) ++ ((CBc cyI cyZ ht t1 t2 t3 tr) ++ (LAc cyI cyZ hw l1 l2 la)))) := by
  refine CtI.of (cc := cX2_lineIn) (maxL := 2) (ret := (some .int)) (lv0 := [(0, .ref h), (1, .int (nI k))]) (by decide) rfl (Nat.le_of_ble_eq_true rfl) rfl ?_
  intro p e s m below meth c A ls args Q hx hb hml hr hlk hts hown hK hP hA hD hS hl hQ
  have hP : va_P D vwCl ((OBo cyI h b1 b2 hu ht hw wr hm) ++ ((CBc cyI cyZ hu u1 u2 u3 (u.1, u.2.1, u.2.2.1, u.2.2.2.1, u.2.2.2.2.1, u.2.2.2.2.2.1, u.2.2.2.2.2.2.1, u.2.2.2.2.2.2.2.1, u.2.2.2.2.2.2.2.2.1, u.2.2.2.2.2.2.2.2.2.1, u.2.2.2.2.2.2.2.2.2.2)) ++ ((CBc cyI cyZ ht t1 t2 t3 (tr.1, tr.2.1, tr.2.2.1, tr.2.2.2.1, tr.2.2.2.2.1, tr.2.2.2.2.2.1, tr.2.2.2.2.2.2.1, tr.2.2.2.2.2.2.2.1, tr.2.2.2.2.2.2.2.2.1, tr.2.2.2.2.2.2.2.2.2.1, tr.2.2.2.2.2.2.2.2.2.2)) ++ (LAc cyI cyZ hw l1 l2 (la.1, la.2.1, la.2.2.1, la.2.2.2))))) s.heap := hP
  have hD : va_D A ((OBo cyI h b1 b2 hu ht hw wr hm) ++ ((CBc cyI cyZ hu u1 u2 u3 (u.1, u.2.1, u.2.2.1, u.2.2.2.1, u.2.2.2.2.1, u.2.2.2.2.2.1, u.2.2.2.2.2.2.1, u.2.2.2.2.2.2.2.1, u.2.2.2.2.2.2.2.2.1, u.2.2.2.2.2.2.2.2.2.1, u.2.2.2.2.2.2.2.2.2.2)) ++ ((CBc cyI cyZ ht t1 t2 t3 (tr.1, tr.2.1, tr.2.2.1, tr.2.2.2.1, tr.2.2.2.2.1, tr.2.2.2.2.2.1, tr.2.2.2.2.2.2.1, tr.2.2.2.2.2.2.2.1, tr.2.2.2.2.2.2.2.2.1, tr.2.2.2.2.2.2.2.2.2.1, tr.2.2.2.2.2.2.2.2.2.2)) ++ (LAc cyI cyZ hw l1 l2 (la.1, la.2.1, la.2.2.1, la.2.2.2))))) := hD
  have hown : s.vm.findClass RX2 = some m.cls := hown
  have hi_RX0 : ∀ w ∈ wsX00, w ∈ wsX2_lineIn := by decide +kernel
  have hi_RX2 : ∀ w ∈ wsX20, w ∈ wsX2_lineIn := by decide +kernel
  have hf_21 := hts (.fieldLink RX2 21 "OutcastBench" "actual" "LOutcastBench$CacheAndBench;") (by decide +kernel)
  have hf_87 := hts (.fieldLink RX2 87 "OutcastBench$CacheAndBench" "lines" "[I") (by decide +kernel)
  refine lv_aload_n hx hb dX2_lineIn_0 rfl (lv_at hl 0 rfl) ?_
  refine lv_iload_n hx hb dX2_lineIn_1 rfl (lv_at hl 1 rfl) ?_
  refine CtV.callV (n := 1) (q0 := 0) (ci := 2) (wc := (OBo cyI h b1 b2 hu ht hw wr hm) ++ ((CBc cyI cyZ hu u1 u2 u3 (u.1, u.2.1, u.2.2.1, u.2.2.2.1, u.2.2.2.2.1, u.2.2.2.2.2.1, u.2.2.2.2.2.2.1, u.2.2.2.2.2.2.2.1, u.2.2.2.2.2.2.2.2.1, u.2.2.2.2.2.2.2.2.2.1, u.2.2.2.2.2.2.2.2.2.2)) ++ ((CBc cyI cyZ ht t1 t2 t3 (tr.1, tr.2.1, tr.2.2.1, tr.2.2.2.1, tr.2.2.2.2.1, tr.2.2.2.2.2.1, tr.2.2.2.2.2.2.1, tr.2.2.2.2.2.2.2.1, tr.2.2.2.2.2.2.2.2.1, tr.2.2.2.2.2.2.2.2.2.1, tr.2.2.2.2.2.2.2.2.2.2)) ++ (LAc cyI cyZ hw l1 l2 (la.1, la.2.1, la.2.2.1, la.2.2.2))))) (wr := ([] : va_W)) (w1 := (OBo cyI h b1 b2 hu ht hw wr hm) ++ ((CBc cyI cyZ hu u1 u2 u3 (u.1, u.2.1, u.2.2.1, u.2.2.2.1, u.2.2.2.2.1, u.2.2.2.2.2.1, u.2.2.2.2.2.2.1, u.2.2.2.2.2.2.2.1, u.2.2.2.2.2.2.2.2.1, u.2.2.2.2.2.2.2.2.2.1, u.2.2.2.2.2.2.2.2.2.2)) ++ ((CBc cyI cyZ ht t1 t2 t3 (tr.1, tr.2.1, tr.2.2.1, tr.2.2.2.1, tr.2.2.2.2.1, tr.2.2.2.2.2.1, tr.2.2.2.2.2.2.1, tr.2.2.2.2.2.2.2.1, tr.2.2.2.2.2.2.2.2.1, tr.2.2.2.2.2.2.2.2.2.1, tr.2.2.2.2.2.2.2.2.2.2)) ++ (LAc cyI cyZ hw l1 l2 (la.1, la.2.1, la.2.2.1, la.2.2.2))))) (ws' := (OBo cyI h b1 b2 hu ht hw wr hm) ++ ((CBc cyI cyZ hu u1 u2 u3 (u.1, u.2.1, u.2.2.1, u.2.2.2.1, u.2.2.2.2.1, u.2.2.2.2.2.1, u.2.2.2.2.2.2.1, u.2.2.2.2.2.2.2.1, u.2.2.2.2.2.2.2.2.1, u.2.2.2.2.2.2.2.2.2.1, u.2.2.2.2.2.2.2.2.2.2)) ++ ((CBc cyI cyZ ht t1 t2 t3 (tr.1, tr.2.1, tr.2.2.1, tr.2.2.2.1, tr.2.2.2.2.1, tr.2.2.2.2.2.1, tr.2.2.2.2.2.2.1, tr.2.2.2.2.2.2.2.1, tr.2.2.2.2.2.2.2.2.1, tr.2.2.2.2.2.2.2.2.2.1, tr.2.2.2.2.2.2.2.2.2.2)) ++ (LAc cyI cyZ hw l1 l2 (la.1, la.2.1, la.2.2.1, la.2.2.2))))) (isC := [0, 1, 2, 3, 4, 5, 6, 7, 8, 9, 10, 11, 12, 13]) (isR := []) (ps := [0, 1, 2, 3, 4, 5, 6, 7, 8, 9, 10, 11, 12, 13]) (As := [.int (nI k)]) (rest := []) (c_requireSet l D cyI cyZ cyJ h b1 b2 hu u1 u2 u3 ht t1 t2 t3 hw l1 l2 wr hm u tr la k hbd hk) ⟨hx, hb, hown, hts⟩ gX2_lineIn_X2_requireSet rfl ⟨rfl, by decide, by decide, by decide +kernel⟩ ⟨Nat.le_of_ble_eq_true rfl, Nat.le_of_ble_eq_true rfl⟩ ⟨rfl, rfl⟩ hml hl.1 hK hP hD hS hA ⟨rfl, rfl, rfl, rfl, rfl, rfl, rfl⟩ rfl ⟨rfl, rfl⟩ rfl rfl (Nat.le_of_ble_eq_true rfl) ⟨Nat.zero_le _, Nat.zero_le _⟩ dX2_lineIn_2 (fun H locs hP hD hS => ?_)
  refine lv_aload_n hx hb dX2_lineIn_5 rfl (lv_at hl 0 rfl) ?_
  refine va_get (D := D) (ci := 2) (v := .ref hu) (C := RX2) (T := TX2) (N := 5) hx hb hts hi_RX2 hown hK hP 0 rfl rfl 2 (by decide) hf_21 (fun _ h9 => h9) rfl dX2_lineIn_6 ?_
  refine va_get (D := D) (ci := 0) (v := .ref u1) (C := RX0) (T := TX0) (N := 11) hx hb hts hi_RX0 hown hK hP 3 rfl rfl 2 (by decide) hf_87 (fun _ h9 => h9) rfl dX2_lineIn_9 ?_
  refine lv_iload_n hx hb dX2_lineIn_12 rfl (lv_at hl 1 rfl) ?_
  refine mq_ld (k := k) oI u.2.2.1 hx hb hK hP 4 0 rfl rfl (by have := cb_sc16 hbd; omega) (Nat.le_of_ble_eq_true rfl) dX2_lineIn_13 ?_
  exact CtI.ret hQ hx hb hr hlk hK hP hD hS dX2_lineIn_14 rfl rfl
abbrev rmX2_lineOnBench : Room := { frames := 0, cells := 0, slots := 0, locals := 0 }
set_option maxRecDepth 100000 in
set_option maxHeartbeats 4000000 in
theorem c_lineOnBench (l : Launch) (D : va_G) (cyI cyZ cyJ : ClassId) (h b1 b2 hu u1 u2 u3 ht t1 t2 t3 hw l1 l2 : Nat) (wr hm : Nat → Int32) (u tr : CBu) (la : LAu) (k : Nat) (hbd : cb_bd u) (hk : k < u.2.2.2.2.1) : CtI l yX2_lineOnBench wsX2_lineOnBench rmX2_lineOnBench D (T3 cyI cyZ cyJ) [.ref h, .int (nI k)] ((OBo cyI h b1 b2 hu ht hw wr hm) ++ ((CBc cyI cyZ hu u1 u2 u3 u) ++ ((CBc cyI cyZ ht t1 t2 t3 tr) ++ (LAc cyI cyZ hw l1 l2 la)))) (nI (u.2.2.2.1 (u.2.2.2.2.1 - 1 - k))) ((OBo cyI h b1 b2 hu ht hw wr hm) ++ ((CBc cyI cyZ hu u1 u2 u3 u) ++ ((CBc cyI cyZ ht t1 t2 t3 tr) ++ (LAc cyI cyZ hw l1 l2 la)))) := by
  refine CtI.of (cc := cX2_lineOnBench) (maxL := 2) (ret := (some .int)) (lv0 := [(0, .ref h), (1, .int (nI k))]) (by decide) rfl (Nat.le_of_ble_eq_true rfl) rfl ?_
  intro p e s m below meth c A ls args Q hx hb hml hr hlk hts hown hK hP hA hD hS hl hQ
  have hP : va_P D vwCl ((OBo cyI h b1 b2 hu ht hw wr hm) ++ ((CBc cyI cyZ hu u1 u2 u3 (u.1, u.2.1, u.2.2.1, u.2.2.2.1, u.2.2.2.2.1, u.2.2.2.2.2.1, u.2.2.2.2.2.2.1, u.2.2.2.2.2.2.2.1, u.2.2.2.2.2.2.2.2.1, u.2.2.2.2.2.2.2.2.2.1, u.2.2.2.2.2.2.2.2.2.2)) ++ ((CBc cyI cyZ ht t1 t2 t3 (tr.1, tr.2.1, tr.2.2.1, tr.2.2.2.1, tr.2.2.2.2.1, tr.2.2.2.2.2.1, tr.2.2.2.2.2.2.1, tr.2.2.2.2.2.2.2.1, tr.2.2.2.2.2.2.2.2.1, tr.2.2.2.2.2.2.2.2.2.1, tr.2.2.2.2.2.2.2.2.2.2)) ++ (LAc cyI cyZ hw l1 l2 (la.1, la.2.1, la.2.2.1, la.2.2.2))))) s.heap := hP
  have hD : va_D A ((OBo cyI h b1 b2 hu ht hw wr hm) ++ ((CBc cyI cyZ hu u1 u2 u3 (u.1, u.2.1, u.2.2.1, u.2.2.2.1, u.2.2.2.2.1, u.2.2.2.2.2.1, u.2.2.2.2.2.2.1, u.2.2.2.2.2.2.2.1, u.2.2.2.2.2.2.2.2.1, u.2.2.2.2.2.2.2.2.2.1, u.2.2.2.2.2.2.2.2.2.2)) ++ ((CBc cyI cyZ ht t1 t2 t3 (tr.1, tr.2.1, tr.2.2.1, tr.2.2.2.1, tr.2.2.2.2.1, tr.2.2.2.2.2.1, tr.2.2.2.2.2.2.1, tr.2.2.2.2.2.2.2.1, tr.2.2.2.2.2.2.2.2.1, tr.2.2.2.2.2.2.2.2.2.1, tr.2.2.2.2.2.2.2.2.2.2)) ++ (LAc cyI cyZ hw l1 l2 (la.1, la.2.1, la.2.2.1, la.2.2.2))))) := hD
  have hown : s.vm.findClass RX2 = some m.cls := hown
  have hi_RX0 : ∀ w ∈ wsX00, w ∈ wsX2_lineOnBench := by decide +kernel
  have hi_RX2 : ∀ w ∈ wsX20, w ∈ wsX2_lineOnBench := by decide +kernel
  have hf_21 := hts (.fieldLink RX2 21 "OutcastBench" "actual" "LOutcastBench$CacheAndBench;") (by decide +kernel)
  have hf_104 := hts (.fieldLink RX2 104 "OutcastBench$CacheAndBench" "seated" "I") (by decide +kernel)
  have hf_112 := hts (.fieldLink RX2 112 "OutcastBench$CacheAndBench" "bench" "[I") (by decide +kernel)
  have hn8 := cb_n8 hbd
  refine lv_iload_n hx hb dX2_lineOnBench_0 rfl (lv_at hl 1 rfl) ?_
  refine lv_if_lt (x := nI k) (tgt := 15) hx hb dX2_lineOnBench_1 (by decide) (fun c1 => ?_) (fun c1 => ?_)
  · exact absurd c1 (nI_pos (by omega))
  · refine lv_iload_n hx hb dX2_lineOnBench_4 rfl (lv_at hl 1 rfl) ?_
    refine lv_aload_n hx hb dX2_lineOnBench_5 rfl (lv_at hl 0 rfl) ?_
    refine va_get (D := D) (ci := 2) (v := .ref hu) (C := RX2) (T := TX2) (N := 5) hx hb hts hi_RX2 hown hK hP 0 rfl rfl 2 (by decide) hf_21 (fun _ h9 => h9) rfl dX2_lineOnBench_6 ?_
    refine va_get (D := D) (ci := 0) (v := .int (nI u.2.2.2.2.1)) (C := RX0) (T := TX0) (N := 11) hx hb hts hi_RX0 hown hK hP 3 rfl rfl 4 (by decide) hf_104 (fun _ h9 => h9) rfl dX2_lineOnBench_9 ?_
    refine mq_lt (x := k) (y := u.2.2.2.2.1) (tgt := 25) (by omega) (by omega) hx hb dX2_lineOnBench_12 (by decide) (fun c2 => ?_) (fun c2 => ?_)
    · refine lv_aload_n hx hb dX2_lineOnBench_25 rfl (lv_at hl 0 rfl) ?_
      refine va_get (D := D) (ci := 2) (v := .ref hu) (C := RX2) (T := TX2) (N := 5) hx hb hts hi_RX2 hown hK hP 0 rfl rfl 2 (by decide) hf_21 (fun _ h9 => h9) rfl dX2_lineOnBench_26 ?_
      refine va_get (D := D) (ci := 0) (v := .ref u2) (C := RX0) (T := TX0) (N := 11) hx hb hts hi_RX0 hown hK hP 3 rfl rfl 3 (by decide) hf_112 (fun _ h9 => h9) rfl dX2_lineOnBench_29 ?_
      refine lv_aload_n hx hb dX2_lineOnBench_32 rfl (lv_at hl 0 rfl) ?_
      refine va_get (D := D) (ci := 2) (v := .ref hu) (C := RX2) (T := TX2) (N := 5) hx hb hts hi_RX2 hown hK hP 0 rfl rfl 2 (by decide) hf_21 (fun _ h9 => h9) rfl dX2_lineOnBench_33 ?_
      refine va_get (D := D) (ci := 0) (v := .int (nI u.2.2.2.2.1)) (C := RX0) (T := TX0) (N := 11) hx hb hts hi_RX0 hown hK hP 3 rfl rfl 4 (by decide) hf_104 (fun _ h9 => h9) rfl dX2_lineOnBench_36 ?_
      refine lv_iconst (v := nI 1) hx hb dX2_lineOnBench_39 (by decide) ?_
      refine mq_isub (x := u.2.2.2.2.1) (y := 1) (by omega) hx hb dX2_lineOnBench_40 ?_
      refine lv_iload_n hx hb dX2_lineOnBench_41 rfl (lv_at hl 1 rfl) ?_
      refine mq_isub (x := (u.2.2.2.2.1 - 1)) (y := k) (by omega) hx hb dX2_lineOnBench_42 ?_
      refine mq_ld (k := (u.2.2.2.2.1 - 1 - k)) nI u.2.2.2.1 hx hb hK hP 5 0 rfl rfl (by omega) (Nat.le_of_ble_eq_true rfl) dX2_lineOnBench_43 ?_
      exact CtI.ret hQ hx hb hr hlk hK hP hD hS dX2_lineOnBench_44 rfl rfl
    · exact absurd hk (by omega)
abbrev rmX2_placeOf : Room := { frames := 2, cells := 0, slots := 0, locals := 43 }
set_option maxRecDepth 100000 in
set_option maxHeartbeats 4000000 in
theorem c_placeOf (l : Launch) (D : va_G) (cyI cyZ cyJ : ClassId) (h b1 b2 hu u1 u2 u3 ht t1 t2 t3 hw l1 l2 : Nat) (wr hm : Nat → Int32) (u tr : CBu) (la : LAu) (q : Nat) (hbd : cb_bd u) (hq : q < 256) : CtI l yX2_placeOf wsX2_placeOf rmX2_placeOf D (T3 cyI cyZ cyJ) [.ref h, .int (nI q)] ((OBo cyI h b1 b2 hu ht hw wr hm) ++ ((CBc cyI cyZ hu u1 u2 u3 u) ++ ((CBc cyI cyZ ht t1 t2 t3 tr) ++ (LAc cyI cyZ hw l1 l2 la)))) (nI (cb_where q u)) ((OBo cyI h b1 b2 hu ht hw wr hm) ++ ((CBc cyI cyZ hu u1 u2 u3 u) ++ ((CBc cyI cyZ ht t1 t2 t3 tr) ++ (LAc cyI cyZ hw l1 l2 la)))) := by
  refine CtI.of (cc := cX2_placeOf) (maxL := 2) (ret := (some .int)) (lv0 := [(0, .ref h), (1, .int (nI q))]) (by decide) rfl (Nat.le_of_ble_eq_true rfl) rfl ?_
  intro p e s m below meth c A ls args Q hx hb hml hr hlk hts hown hK hP hA hD hS hl hQ
  have hP : va_P D vwCl ((OBo cyI h b1 b2 hu ht hw wr hm) ++ ((CBc cyI cyZ hu u1 u2 u3 (u.1, u.2.1, u.2.2.1, u.2.2.2.1, u.2.2.2.2.1, u.2.2.2.2.2.1, u.2.2.2.2.2.2.1, u.2.2.2.2.2.2.2.1, u.2.2.2.2.2.2.2.2.1, u.2.2.2.2.2.2.2.2.2.1, u.2.2.2.2.2.2.2.2.2.2)) ++ ((CBc cyI cyZ ht t1 t2 t3 (tr.1, tr.2.1, tr.2.2.1, tr.2.2.2.1, tr.2.2.2.2.1, tr.2.2.2.2.2.1, tr.2.2.2.2.2.2.1, tr.2.2.2.2.2.2.2.1, tr.2.2.2.2.2.2.2.2.1, tr.2.2.2.2.2.2.2.2.2.1, tr.2.2.2.2.2.2.2.2.2.2)) ++ (LAc cyI cyZ hw l1 l2 (la.1, la.2.1, la.2.2.1, la.2.2.2))))) s.heap := hP
  have hD : va_D A ((OBo cyI h b1 b2 hu ht hw wr hm) ++ ((CBc cyI cyZ hu u1 u2 u3 (u.1, u.2.1, u.2.2.1, u.2.2.2.1, u.2.2.2.2.1, u.2.2.2.2.2.1, u.2.2.2.2.2.2.1, u.2.2.2.2.2.2.2.1, u.2.2.2.2.2.2.2.2.1, u.2.2.2.2.2.2.2.2.2.1, u.2.2.2.2.2.2.2.2.2.2)) ++ ((CBc cyI cyZ ht t1 t2 t3 (tr.1, tr.2.1, tr.2.2.1, tr.2.2.2.1, tr.2.2.2.2.1, tr.2.2.2.2.2.1, tr.2.2.2.2.2.2.1, tr.2.2.2.2.2.2.2.1, tr.2.2.2.2.2.2.2.2.1, tr.2.2.2.2.2.2.2.2.2.1, tr.2.2.2.2.2.2.2.2.2.2)) ++ (LAc cyI cyZ hw l1 l2 (la.1, la.2.1, la.2.2.1, la.2.2.2))))) := hD
  have hown : s.vm.findClass RX2 = some m.cls := hown
  have hi_RX2 : ∀ w ∈ wsX20, w ∈ wsX2_placeOf := by decide +kernel
  have hf_21 := hts (.fieldLink RX2 21 "OutcastBench" "actual" "LOutcastBench$CacheAndBench;") (by decide +kernel)
  refine lv_iload_n hx hb dX2_placeOf_0 rfl (lv_at hl 1 rfl) ?_
  refine CtV.callS (n := 1) (wc := ([] : va_W)) (wr := (OBo cyI h b1 b2 hu ht hw wr hm) ++ ((CBc cyI cyZ hu u1 u2 u3 (u.1, u.2.1, u.2.2.1, u.2.2.2.1, u.2.2.2.2.1, u.2.2.2.2.2.1, u.2.2.2.2.2.2.1, u.2.2.2.2.2.2.2.1, u.2.2.2.2.2.2.2.2.1, u.2.2.2.2.2.2.2.2.2.1, u.2.2.2.2.2.2.2.2.2.2)) ++ ((CBc cyI cyZ ht t1 t2 t3 (tr.1, tr.2.1, tr.2.2.1, tr.2.2.2.1, tr.2.2.2.2.1, tr.2.2.2.2.2.1, tr.2.2.2.2.2.2.1, tr.2.2.2.2.2.2.2.1, tr.2.2.2.2.2.2.2.2.1, tr.2.2.2.2.2.2.2.2.2.1, tr.2.2.2.2.2.2.2.2.2.2)) ++ (LAc cyI cyZ hw l1 l2 (la.1, la.2.1, la.2.2.1, la.2.2.2))))) (w1 := ([] : va_W)) (ws' := (OBo cyI h b1 b2 hu ht hw wr hm) ++ ((CBc cyI cyZ hu u1 u2 u3 (u.1, u.2.1, u.2.2.1, u.2.2.2.1, u.2.2.2.2.1, u.2.2.2.2.2.1, u.2.2.2.2.2.2.1, u.2.2.2.2.2.2.2.1, u.2.2.2.2.2.2.2.2.1, u.2.2.2.2.2.2.2.2.2.1, u.2.2.2.2.2.2.2.2.2.2)) ++ ((CBc cyI cyZ ht t1 t2 t3 (tr.1, tr.2.1, tr.2.2.1, tr.2.2.2.1, tr.2.2.2.2.1, tr.2.2.2.2.2.1, tr.2.2.2.2.2.2.1, tr.2.2.2.2.2.2.2.1, tr.2.2.2.2.2.2.2.2.1, tr.2.2.2.2.2.2.2.2.2.1, tr.2.2.2.2.2.2.2.2.2.2)) ++ (LAc cyI cyZ hw l1 l2 (la.1, la.2.1, la.2.2.1, la.2.2.2))))) (isC := []) (isR := [0, 1, 2, 3, 4, 5, 6, 7, 8, 9, 10, 11, 12, 13]) (ps := [0, 1, 2, 3, 4, 5, 6, 7, 8, 9, 10, 11, 12, 13]) (As := [.int (nI q)]) (rest := []) (c_requireLine l D cyI cyZ cyJ q hq) ⟨hx, hb, hown, hts⟩ gX2_placeOf_X2_requireLine rfl ⟨by decide, by decide, by decide +kernel⟩ ⟨Nat.le_of_ble_eq_true rfl, Nat.le_of_ble_eq_true rfl⟩ ⟨rfl, rfl⟩ hml hl.1 hK hP hD hS hA ⟨rfl, rfl, rfl, rfl, rfl, rfl, rfl⟩ rfl rfl (Nat.le_of_ble_eq_true rfl) ⟨Nat.zero_le _, Nat.zero_le _⟩ dX2_placeOf_1 (fun H locs hP hD hS => ?_)
  refine lv_aload_n hx hb dX2_placeOf_4 rfl (lv_at hl 0 rfl) ?_
  refine va_get (D := D) (ci := 2) (v := .ref hu) (C := RX2) (T := TX2) (N := 5) hx hb hts hi_RX2 hown hK hP 0 rfl rfl 2 (by decide) hf_21 (fun _ h9 => h9) rfl dX2_placeOf_5 ?_
  refine lv_iload_n hx hb dX2_placeOf_8 rfl (lv_at hl 1 rfl) ?_
  refine CtI.callV (n := 1) (q0 := 0) (ci := 0) (wc := CBc cyI cyZ hu u1 u2 u3 (u.1, u.2.1, u.2.2.1, u.2.2.2.1, u.2.2.2.2.1, u.2.2.2.2.2.1, u.2.2.2.2.2.2.1, u.2.2.2.2.2.2.2.1, u.2.2.2.2.2.2.2.2.1, u.2.2.2.2.2.2.2.2.2.1, u.2.2.2.2.2.2.2.2.2.2)) (wr := (OBo cyI h b1 b2 hu ht hw wr hm) ++ ((CBc cyI cyZ ht t1 t2 t3 (tr.1, tr.2.1, tr.2.2.1, tr.2.2.2.1, tr.2.2.2.2.1, tr.2.2.2.2.2.1, tr.2.2.2.2.2.2.1, tr.2.2.2.2.2.2.2.1, tr.2.2.2.2.2.2.2.2.1, tr.2.2.2.2.2.2.2.2.2.1, tr.2.2.2.2.2.2.2.2.2.2)) ++ (LAc cyI cyZ hw l1 l2 (la.1, la.2.1, la.2.2.1, la.2.2.2)))) (w1 := CBc cyI cyZ hu u1 u2 u3 (u.1, u.2.1, u.2.2.1, u.2.2.2.1, u.2.2.2.2.1, u.2.2.2.2.2.1, u.2.2.2.2.2.2.1, u.2.2.2.2.2.2.2.1, u.2.2.2.2.2.2.2.2.1, u.2.2.2.2.2.2.2.2.2.1, u.2.2.2.2.2.2.2.2.2.2)) (ws' := (OBo cyI h b1 b2 hu ht hw wr hm) ++ ((CBc cyI cyZ hu u1 u2 u3 (u.1, u.2.1, u.2.2.1, u.2.2.2.1, u.2.2.2.2.1, u.2.2.2.2.2.1, u.2.2.2.2.2.2.1, u.2.2.2.2.2.2.2.1, u.2.2.2.2.2.2.2.2.1, u.2.2.2.2.2.2.2.2.2.1, u.2.2.2.2.2.2.2.2.2.2)) ++ ((CBc cyI cyZ ht t1 t2 t3 (tr.1, tr.2.1, tr.2.2.1, tr.2.2.2.1, tr.2.2.2.2.1, tr.2.2.2.2.2.1, tr.2.2.2.2.2.2.1, tr.2.2.2.2.2.2.2.1, tr.2.2.2.2.2.2.2.2.1, tr.2.2.2.2.2.2.2.2.2.1, tr.2.2.2.2.2.2.2.2.2.2)) ++ (LAc cyI cyZ hw l1 l2 (la.1, la.2.1, la.2.2.1, la.2.2.2))))) (isC := [3, 4, 5, 6]) (isR := [0, 1, 2, 7, 8, 9, 10, 11, 12, 13]) (ps := [0, 1, 2, 10, 11, 12, 13, 3, 4, 5, 6, 7, 8, 9]) (As := [.int (nI q)]) (rest := []) (c_whereIsU l D cyI cyZ cyJ hu u1 u2 u3 u q hbd hq) ⟨hx, hb, hown, hts⟩ gX2_placeOf_X0_whereIs rfl ⟨rfl, by decide, by decide, by decide +kernel⟩ ⟨Nat.le_of_ble_eq_true rfl, Nat.le_of_ble_eq_true rfl⟩ ⟨rfl, rfl⟩ hml hl.1 hK hP hD hS hA ⟨rfl, rfl, rfl, rfl, rfl, rfl, rfl⟩ rfl ⟨rfl, rfl⟩ rfl rfl (Nat.le_of_ble_eq_true rfl) ⟨Nat.zero_le _, Nat.zero_le _⟩ dX2_placeOf_9 (fun H locs hP hD hS => ?_)
  exact CtI.ret hQ hx hb hr hlk hK hP hD hS dX2_placeOf_12 rfl rfl
abbrev rmX2_isDirty : Room := { frames := 1, cells := 0, slots := 0, locals := 21 }
set_option maxRecDepth 100000 in
set_option maxHeartbeats 4000000 in
theorem c_isDirty (l : Launch) (D : va_G) (cyI cyZ cyJ : ClassId) (h b1 b2 hu u1 u2 u3 ht t1 t2 t3 hw l1 l2 : Nat) (wr hm : Nat → Int32) (u tr : CBu) (la : LAu) (q : Nat) (hq : q < 256) : CtI l yX2_isDirty wsX2_isDirty rmX2_isDirty D (T3 cyI cyZ cyJ) [.ref h, .int (nI q)] ((OBo cyI h b1 b2 hu ht hw wr hm) ++ ((CBc cyI cyZ hu u1 u2 u3 u) ++ ((CBc cyI cyZ ht t1 t2 t3 tr) ++ (LAc cyI cyZ hw l1 l2 la)))) (bI (cb_dt u q)) ((OBo cyI h b1 b2 hu ht hw wr hm) ++ ((CBc cyI cyZ hu u1 u2 u3 u) ++ ((CBc cyI cyZ ht t1 t2 t3 tr) ++ (LAc cyI cyZ hw l1 l2 la)))) := by
  refine CtI.of (cc := cX2_isDirty) (maxL := 2) (ret := (some .boolean)) (lv0 := [(0, .ref h), (1, .int (nI q))]) (by decide) rfl (Nat.le_of_ble_eq_true rfl) rfl ?_
  intro p e s m below meth c A ls args Q hx hb hml hr hlk hts hown hK hP hA hD hS hl hQ
  have hP : va_P D vwCl ((OBo cyI h b1 b2 hu ht hw wr hm) ++ ((CBc cyI cyZ hu u1 u2 u3 (u.1, u.2.1, u.2.2.1, u.2.2.2.1, u.2.2.2.2.1, u.2.2.2.2.2.1, u.2.2.2.2.2.2.1, u.2.2.2.2.2.2.2.1, u.2.2.2.2.2.2.2.2.1, u.2.2.2.2.2.2.2.2.2.1, u.2.2.2.2.2.2.2.2.2.2)) ++ ((CBc cyI cyZ ht t1 t2 t3 (tr.1, tr.2.1, tr.2.2.1, tr.2.2.2.1, tr.2.2.2.2.1, tr.2.2.2.2.2.1, tr.2.2.2.2.2.2.1, tr.2.2.2.2.2.2.2.1, tr.2.2.2.2.2.2.2.2.1, tr.2.2.2.2.2.2.2.2.2.1, tr.2.2.2.2.2.2.2.2.2.2)) ++ (LAc cyI cyZ hw l1 l2 (la.1, la.2.1, la.2.2.1, la.2.2.2))))) s.heap := hP
  have hD : va_D A ((OBo cyI h b1 b2 hu ht hw wr hm) ++ ((CBc cyI cyZ hu u1 u2 u3 (u.1, u.2.1, u.2.2.1, u.2.2.2.1, u.2.2.2.2.1, u.2.2.2.2.2.1, u.2.2.2.2.2.2.1, u.2.2.2.2.2.2.2.1, u.2.2.2.2.2.2.2.2.1, u.2.2.2.2.2.2.2.2.2.1, u.2.2.2.2.2.2.2.2.2.2)) ++ ((CBc cyI cyZ ht t1 t2 t3 (tr.1, tr.2.1, tr.2.2.1, tr.2.2.2.1, tr.2.2.2.2.1, tr.2.2.2.2.2.1, tr.2.2.2.2.2.2.1, tr.2.2.2.2.2.2.2.1, tr.2.2.2.2.2.2.2.2.1, tr.2.2.2.2.2.2.2.2.2.1, tr.2.2.2.2.2.2.2.2.2.2)) ++ (LAc cyI cyZ hw l1 l2 (la.1, la.2.1, la.2.2.1, la.2.2.2))))) := hD
  have hown : s.vm.findClass RX2 = some m.cls := hown
  have hi_RX0 : ∀ w ∈ wsX00, w ∈ wsX2_isDirty := by decide +kernel
  have hi_RX2 : ∀ w ∈ wsX20, w ∈ wsX2_isDirty := by decide +kernel
  have hf_21 := hts (.fieldLink RX2 21 "OutcastBench" "actual" "LOutcastBench$CacheAndBench;") (by decide +kernel)
  have hf_47 := hts (.fieldLink RX2 47 "OutcastBench$CacheAndBench" "dirtyLines" "[Z") (by decide +kernel)
  refine lv_iload_n hx hb dX2_isDirty_0 rfl (lv_at hl 1 rfl) ?_
  refine CtV.callS (n := 1) (wc := ([] : va_W)) (wr := (OBo cyI h b1 b2 hu ht hw wr hm) ++ ((CBc cyI cyZ hu u1 u2 u3 (u.1, u.2.1, u.2.2.1, u.2.2.2.1, u.2.2.2.2.1, u.2.2.2.2.2.1, u.2.2.2.2.2.2.1, u.2.2.2.2.2.2.2.1, u.2.2.2.2.2.2.2.2.1, u.2.2.2.2.2.2.2.2.2.1, u.2.2.2.2.2.2.2.2.2.2)) ++ ((CBc cyI cyZ ht t1 t2 t3 (tr.1, tr.2.1, tr.2.2.1, tr.2.2.2.1, tr.2.2.2.2.1, tr.2.2.2.2.2.1, tr.2.2.2.2.2.2.1, tr.2.2.2.2.2.2.2.1, tr.2.2.2.2.2.2.2.2.1, tr.2.2.2.2.2.2.2.2.2.1, tr.2.2.2.2.2.2.2.2.2.2)) ++ (LAc cyI cyZ hw l1 l2 (la.1, la.2.1, la.2.2.1, la.2.2.2))))) (w1 := ([] : va_W)) (ws' := (OBo cyI h b1 b2 hu ht hw wr hm) ++ ((CBc cyI cyZ hu u1 u2 u3 (u.1, u.2.1, u.2.2.1, u.2.2.2.1, u.2.2.2.2.1, u.2.2.2.2.2.1, u.2.2.2.2.2.2.1, u.2.2.2.2.2.2.2.1, u.2.2.2.2.2.2.2.2.1, u.2.2.2.2.2.2.2.2.2.1, u.2.2.2.2.2.2.2.2.2.2)) ++ ((CBc cyI cyZ ht t1 t2 t3 (tr.1, tr.2.1, tr.2.2.1, tr.2.2.2.1, tr.2.2.2.2.1, tr.2.2.2.2.2.1, tr.2.2.2.2.2.2.1, tr.2.2.2.2.2.2.2.1, tr.2.2.2.2.2.2.2.2.1, tr.2.2.2.2.2.2.2.2.2.1, tr.2.2.2.2.2.2.2.2.2.2)) ++ (LAc cyI cyZ hw l1 l2 (la.1, la.2.1, la.2.2.1, la.2.2.2))))) (isC := []) (isR := [0, 1, 2, 3, 4, 5, 6, 7, 8, 9, 10, 11, 12, 13]) (ps := [0, 1, 2, 3, 4, 5, 6, 7, 8, 9, 10, 11, 12, 13]) (As := [.int (nI q)]) (rest := []) (c_requireLine l D cyI cyZ cyJ q hq) ⟨hx, hb, hown, hts⟩ gX2_isDirty_X2_requireLine rfl ⟨by decide, by decide, by decide +kernel⟩ ⟨Nat.le_of_ble_eq_true rfl, Nat.le_of_ble_eq_true rfl⟩ ⟨rfl, rfl⟩ hml hl.1 hK hP hD hS hA ⟨rfl, rfl, rfl, rfl, rfl, rfl, rfl⟩ rfl rfl (Nat.le_of_ble_eq_true rfl) ⟨Nat.zero_le _, Nat.zero_le _⟩ dX2_isDirty_1 (fun H locs hP hD hS => ?_)
  refine lv_aload_n hx hb dX2_isDirty_4 rfl (lv_at hl 0 rfl) ?_
  refine va_get (D := D) (ci := 2) (v := .ref hu) (C := RX2) (T := TX2) (N := 5) hx hb hts hi_RX2 hown hK hP 0 rfl rfl 2 (by decide) hf_21 (fun _ h9 => h9) rfl dX2_isDirty_5 ?_
  refine va_get (D := D) (ci := 0) (v := .ref u3) (C := RX0) (T := TX0) (N := 11) hx hb hts hi_RX0 hown hK hP 3 rfl rfl 5 (by decide) hf_47 (fun _ h9 => h9) rfl dX2_isDirty_8 ?_
  refine lv_iload_n hx hb dX2_isDirty_11 rfl (lv_at hl 1 rfl) ?_
  refine mq_zld (k := q) u.2.2.2.2.2.1 hx hb hK hP 6 1 rfl rfl (by omega) (Nat.le_of_ble_eq_true rfl) dX2_isDirty_12 ?_
  exact CtI.zret hQ hx hb hr (narrow_bI _) hlk hK hP hD hS dX2_isDirty_13 rfl rfl
abbrev rmX2_dirty : Room := { frames := 1, cells := 0, slots := 0, locals := 22 }
set_option maxRecDepth 100000 in
set_option maxHeartbeats 4000000 in
theorem c_dirty (l : Launch) (D : va_G) (cyI cyZ cyJ : ClassId) (h b1 b2 hu u1 u2 u3 ht t1 t2 t3 hw l1 l2 : Nat) (wr hm : Nat → Int32) (u tr : CBu) (la : LAu)  : CtI l yX2_dirty wsX2_dirty rmX2_dirty D (T3 cyI cyZ cyJ) [.ref h] ((OBo cyI h b1 b2 hu ht hw wr hm) ++ ((CBc cyI cyZ hu u1 u2 u3 u) ++ ((CBc cyI cyZ ht t1 t2 t3 tr) ++ (LAc cyI cyZ hw l1 l2 la)))) (nI (cb_dirty u)) ((OBo cyI h b1 b2 hu ht hw wr hm) ++ ((CBc cyI cyZ hu u1 u2 u3 u) ++ ((CBc cyI cyZ ht t1 t2 t3 tr) ++ (LAc cyI cyZ hw l1 l2 la)))) := by
  refine CtI.of (cc := cX2_dirty) (maxL := 1) (ret := (some .int)) (lv0 := [(0, .ref h)]) (by decide) rfl (Nat.le_of_ble_eq_true rfl) rfl ?_
  intro p e s m below meth c A ls args Q hx hb hml hr hlk hts hown hK hP hA hD hS hl hQ
  have hP : va_P D vwCl ((OBo cyI h b1 b2 hu ht hw wr hm) ++ ((CBc cyI cyZ hu u1 u2 u3 (u.1, u.2.1, u.2.2.1, u.2.2.2.1, u.2.2.2.2.1, u.2.2.2.2.2.1, u.2.2.2.2.2.2.1, u.2.2.2.2.2.2.2.1, u.2.2.2.2.2.2.2.2.1, u.2.2.2.2.2.2.2.2.2.1, u.2.2.2.2.2.2.2.2.2.2)) ++ ((CBc cyI cyZ ht t1 t2 t3 (tr.1, tr.2.1, tr.2.2.1, tr.2.2.2.1, tr.2.2.2.2.1, tr.2.2.2.2.2.1, tr.2.2.2.2.2.2.1, tr.2.2.2.2.2.2.2.1, tr.2.2.2.2.2.2.2.2.1, tr.2.2.2.2.2.2.2.2.2.1, tr.2.2.2.2.2.2.2.2.2.2)) ++ (LAc cyI cyZ hw l1 l2 (la.1, la.2.1, la.2.2.1, la.2.2.2))))) s.heap := hP
  have hD : va_D A ((OBo cyI h b1 b2 hu ht hw wr hm) ++ ((CBc cyI cyZ hu u1 u2 u3 (u.1, u.2.1, u.2.2.1, u.2.2.2.1, u.2.2.2.2.1, u.2.2.2.2.2.1, u.2.2.2.2.2.2.1, u.2.2.2.2.2.2.2.1, u.2.2.2.2.2.2.2.2.1, u.2.2.2.2.2.2.2.2.2.1, u.2.2.2.2.2.2.2.2.2.2)) ++ ((CBc cyI cyZ ht t1 t2 t3 (tr.1, tr.2.1, tr.2.2.1, tr.2.2.2.1, tr.2.2.2.2.1, tr.2.2.2.2.2.1, tr.2.2.2.2.2.2.1, tr.2.2.2.2.2.2.2.1, tr.2.2.2.2.2.2.2.2.1, tr.2.2.2.2.2.2.2.2.2.1, tr.2.2.2.2.2.2.2.2.2.2)) ++ (LAc cyI cyZ hw l1 l2 (la.1, la.2.1, la.2.2.1, la.2.2.2))))) := hD
  have hown : s.vm.findClass RX2 = some m.cls := hown
  have hi_RX2 : ∀ w ∈ wsX20, w ∈ wsX2_dirty := by decide +kernel
  have hf_21 := hts (.fieldLink RX2 21 "OutcastBench" "actual" "LOutcastBench$CacheAndBench;") (by decide +kernel)
  refine lv_aload_n hx hb dX2_dirty_0 rfl (lv_at hl 0 rfl) ?_
  refine va_get (D := D) (ci := 2) (v := .ref hu) (C := RX2) (T := TX2) (N := 5) hx hb hts hi_RX2 hown hK hP 0 rfl rfl 2 (by decide) hf_21 (fun _ h9 => h9) rfl dX2_dirty_1 ?_
  refine CtI.callV (n := 0) (q0 := 0) (ci := 0) (wc := CBc cyI cyZ hu u1 u2 u3 (u.1, u.2.1, u.2.2.1, u.2.2.2.1, u.2.2.2.2.1, u.2.2.2.2.2.1, u.2.2.2.2.2.2.1, u.2.2.2.2.2.2.2.1, u.2.2.2.2.2.2.2.2.1, u.2.2.2.2.2.2.2.2.2.1, u.2.2.2.2.2.2.2.2.2.2)) (wr := (OBo cyI h b1 b2 hu ht hw wr hm) ++ ((CBc cyI cyZ ht t1 t2 t3 (tr.1, tr.2.1, tr.2.2.1, tr.2.2.2.1, tr.2.2.2.2.1, tr.2.2.2.2.2.1, tr.2.2.2.2.2.2.1, tr.2.2.2.2.2.2.2.1, tr.2.2.2.2.2.2.2.2.1, tr.2.2.2.2.2.2.2.2.2.1, tr.2.2.2.2.2.2.2.2.2.2)) ++ (LAc cyI cyZ hw l1 l2 (la.1, la.2.1, la.2.2.1, la.2.2.2)))) (w1 := CBc cyI cyZ hu u1 u2 u3 (u.1, u.2.1, u.2.2.1, u.2.2.2.1, u.2.2.2.2.1, u.2.2.2.2.2.1, u.2.2.2.2.2.2.1, u.2.2.2.2.2.2.2.1, u.2.2.2.2.2.2.2.2.1, u.2.2.2.2.2.2.2.2.2.1, u.2.2.2.2.2.2.2.2.2.2)) (ws' := (OBo cyI h b1 b2 hu ht hw wr hm) ++ ((CBc cyI cyZ hu u1 u2 u3 (u.1, u.2.1, u.2.2.1, u.2.2.2.1, u.2.2.2.2.1, u.2.2.2.2.2.1, u.2.2.2.2.2.2.1, u.2.2.2.2.2.2.2.1, u.2.2.2.2.2.2.2.2.1, u.2.2.2.2.2.2.2.2.2.1, u.2.2.2.2.2.2.2.2.2.2)) ++ ((CBc cyI cyZ ht t1 t2 t3 (tr.1, tr.2.1, tr.2.2.1, tr.2.2.2.1, tr.2.2.2.2.1, tr.2.2.2.2.2.1, tr.2.2.2.2.2.2.1, tr.2.2.2.2.2.2.2.1, tr.2.2.2.2.2.2.2.2.1, tr.2.2.2.2.2.2.2.2.2.1, tr.2.2.2.2.2.2.2.2.2.2)) ++ (LAc cyI cyZ hw l1 l2 (la.1, la.2.1, la.2.2.1, la.2.2.2))))) (isC := [3, 4, 5, 6]) (isR := [0, 1, 2, 7, 8, 9, 10, 11, 12, 13]) (ps := [0, 1, 2, 10, 11, 12, 13, 3, 4, 5, 6, 7, 8, 9]) (As := []) (rest := []) (c_countDirtyU l D cyI cyZ cyJ hu u1 u2 u3 u ) ⟨hx, hb, hown, hts⟩ gX2_dirty_X0_countDirty rfl ⟨rfl, by decide, by decide, by decide +kernel⟩ ⟨Nat.le_of_ble_eq_true rfl, Nat.le_of_ble_eq_true rfl⟩ ⟨rfl, rfl⟩ hml hl.1 hK hP hD hS hA ⟨rfl, rfl, rfl, rfl, rfl, rfl, rfl⟩ rfl ⟨rfl, rfl⟩ rfl rfl (Nat.le_of_ble_eq_true rfl) ⟨Nat.zero_le _, Nat.zero_le _⟩ dX2_dirty_4 (fun H locs hP hD hS => ?_)
  exact CtI.ret hQ hx hb hr hlk hK hP hD hS dX2_dirty_7 rfl rfl
abbrev rmX2_atHome : Room := { frames := 1, cells := 0, slots := 0, locals := 21 }
set_option maxRecDepth 100000 in
set_option maxHeartbeats 4000000 in
theorem c_atHome (l : Launch) (D : va_G) (cyI cyZ cyJ : ClassId) (h b1 b2 hu u1 u2 u3 ht t1 t2 t3 hw l1 l2 : Nat) (wr hm : Nat → Int32) (u tr : CBu) (la : LAu) (a : Nat) (ha : a < 1024) : CtI l yX2_atHome wsX2_atHome rmX2_atHome D (T3 cyI cyZ cyJ) [.ref h, .int (nI a)] ((OBo cyI h b1 b2 hu ht hw wr hm) ++ ((CBc cyI cyZ hu u1 u2 u3 u) ++ ((CBc cyI cyZ ht t1 t2 t3 tr) ++ (LAc cyI cyZ hw l1 l2 la)))) (if cb_dt u (a / 4) = true then hm a else wr a) ((OBo cyI h b1 b2 hu ht hw wr hm) ++ ((CBc cyI cyZ hu u1 u2 u3 u) ++ ((CBc cyI cyZ ht t1 t2 t3 tr) ++ (LAc cyI cyZ hw l1 l2 la)))) := by
  refine CtI.of (cc := cX2_atHome) (maxL := 2) (ret := (some .int)) (lv0 := [(0, .ref h), (1, .int (nI a))]) (by decide) rfl (Nat.le_of_ble_eq_true rfl) rfl ?_
  intro p e s m below meth c A ls args Q hx hb hml hr hlk hts hown hK hP hA hD hS hl hQ
  have hP : va_P D vwCl ((OBo cyI h b1 b2 hu ht hw wr hm) ++ ((CBc cyI cyZ hu u1 u2 u3 (u.1, u.2.1, u.2.2.1, u.2.2.2.1, u.2.2.2.2.1, u.2.2.2.2.2.1, u.2.2.2.2.2.2.1, u.2.2.2.2.2.2.2.1, u.2.2.2.2.2.2.2.2.1, u.2.2.2.2.2.2.2.2.2.1, u.2.2.2.2.2.2.2.2.2.2)) ++ ((CBc cyI cyZ ht t1 t2 t3 (tr.1, tr.2.1, tr.2.2.1, tr.2.2.2.1, tr.2.2.2.2.1, tr.2.2.2.2.2.1, tr.2.2.2.2.2.2.1, tr.2.2.2.2.2.2.2.1, tr.2.2.2.2.2.2.2.2.1, tr.2.2.2.2.2.2.2.2.2.1, tr.2.2.2.2.2.2.2.2.2.2)) ++ (LAc cyI cyZ hw l1 l2 (la.1, la.2.1, la.2.2.1, la.2.2.2))))) s.heap := hP
  have hD : va_D A ((OBo cyI h b1 b2 hu ht hw wr hm) ++ ((CBc cyI cyZ hu u1 u2 u3 (u.1, u.2.1, u.2.2.1, u.2.2.2.1, u.2.2.2.2.1, u.2.2.2.2.2.1, u.2.2.2.2.2.2.1, u.2.2.2.2.2.2.2.1, u.2.2.2.2.2.2.2.2.1, u.2.2.2.2.2.2.2.2.2.1, u.2.2.2.2.2.2.2.2.2.2)) ++ ((CBc cyI cyZ ht t1 t2 t3 (tr.1, tr.2.1, tr.2.2.1, tr.2.2.2.1, tr.2.2.2.2.1, tr.2.2.2.2.2.1, tr.2.2.2.2.2.2.1, tr.2.2.2.2.2.2.2.1, tr.2.2.2.2.2.2.2.2.1, tr.2.2.2.2.2.2.2.2.2.1, tr.2.2.2.2.2.2.2.2.2.2)) ++ (LAc cyI cyZ hw l1 l2 (la.1, la.2.1, la.2.2.1, la.2.2.2))))) := hD
  have hown : s.vm.findClass RX2 = some m.cls := hown
  have hi_RX0 : ∀ w ∈ wsX00, w ∈ wsX2_atHome := by decide +kernel
  have hi_RX2 : ∀ w ∈ wsX20, w ∈ wsX2_atHome := by decide +kernel
  have hf_9 := hts (.fieldLink RX2 9 "OutcastBench" "written" "[I") (by decide +kernel)
  have hf_13 := hts (.fieldLink RX2 13 "OutcastBench" "home" "[I") (by decide +kernel)
  have hf_21 := hts (.fieldLink RX2 21 "OutcastBench" "actual" "LOutcastBench$CacheAndBench;") (by decide +kernel)
  have hf_47 := hts (.fieldLink RX2 47 "OutcastBench$CacheAndBench" "dirtyLines" "[Z") (by decide +kernel)
  refine lv_iload_n hx hb dX2_atHome_0 rfl (lv_at hl 1 rfl) ?_
  refine CtV.callS (n := 1) (wc := ([] : va_W)) (wr := (OBo cyI h b1 b2 hu ht hw wr hm) ++ ((CBc cyI cyZ hu u1 u2 u3 (u.1, u.2.1, u.2.2.1, u.2.2.2.1, u.2.2.2.2.1, u.2.2.2.2.2.1, u.2.2.2.2.2.2.1, u.2.2.2.2.2.2.2.1, u.2.2.2.2.2.2.2.2.1, u.2.2.2.2.2.2.2.2.2.1, u.2.2.2.2.2.2.2.2.2.2)) ++ ((CBc cyI cyZ ht t1 t2 t3 (tr.1, tr.2.1, tr.2.2.1, tr.2.2.2.1, tr.2.2.2.2.1, tr.2.2.2.2.2.1, tr.2.2.2.2.2.2.1, tr.2.2.2.2.2.2.2.1, tr.2.2.2.2.2.2.2.2.1, tr.2.2.2.2.2.2.2.2.2.1, tr.2.2.2.2.2.2.2.2.2.2)) ++ (LAc cyI cyZ hw l1 l2 (la.1, la.2.1, la.2.2.1, la.2.2.2))))) (w1 := ([] : va_W)) (ws' := (OBo cyI h b1 b2 hu ht hw wr hm) ++ ((CBc cyI cyZ hu u1 u2 u3 (u.1, u.2.1, u.2.2.1, u.2.2.2.1, u.2.2.2.2.1, u.2.2.2.2.2.1, u.2.2.2.2.2.2.1, u.2.2.2.2.2.2.2.1, u.2.2.2.2.2.2.2.2.1, u.2.2.2.2.2.2.2.2.2.1, u.2.2.2.2.2.2.2.2.2.2)) ++ ((CBc cyI cyZ ht t1 t2 t3 (tr.1, tr.2.1, tr.2.2.1, tr.2.2.2.1, tr.2.2.2.2.1, tr.2.2.2.2.2.1, tr.2.2.2.2.2.2.1, tr.2.2.2.2.2.2.2.1, tr.2.2.2.2.2.2.2.2.1, tr.2.2.2.2.2.2.2.2.2.1, tr.2.2.2.2.2.2.2.2.2.2)) ++ (LAc cyI cyZ hw l1 l2 (la.1, la.2.1, la.2.2.1, la.2.2.2))))) (isC := []) (isR := [0, 1, 2, 3, 4, 5, 6, 7, 8, 9, 10, 11, 12, 13]) (ps := [0, 1, 2, 3, 4, 5, 6, 7, 8, 9, 10, 11, 12, 13]) (As := [.int (nI a)]) (rest := []) (c_requireWord l D cyI cyZ cyJ a ha) ⟨hx, hb, hown, hts⟩ gX2_atHome_X2_requireWord rfl ⟨by decide, by decide, by decide +kernel⟩ ⟨Nat.le_of_ble_eq_true rfl, Nat.le_of_ble_eq_true rfl⟩ ⟨rfl, rfl⟩ hml hl.1 hK hP hD hS hA ⟨rfl, rfl, rfl, rfl, rfl, rfl, rfl⟩ rfl rfl (Nat.le_of_ble_eq_true rfl) ⟨Nat.zero_le _, Nat.zero_le _⟩ dX2_atHome_1 (fun H locs hP hD hS => ?_)
  refine lv_aload_n hx hb dX2_atHome_4 rfl (lv_at hl 0 rfl) ?_
  refine va_get (D := D) (ci := 2) (v := .ref hu) (C := RX2) (T := TX2) (N := 5) hx hb hts hi_RX2 hown hK hP 0 rfl rfl 2 (by decide) hf_21 (fun _ h9 => h9) rfl dX2_atHome_5 ?_
  refine va_get (D := D) (ci := 0) (v := .ref u3) (C := RX0) (T := TX0) (N := 11) hx hb hts hi_RX0 hown hK hP 3 rfl rfl 5 (by decide) hf_47 (fun _ h9 => h9) rfl dX2_atHome_8 ?_
  refine lv_iload_n hx hb dX2_atHome_11 rfl (lv_at hl 1 rfl) ?_
  refine CtI.callS (n := 1) (wc := ([] : va_W)) (wr := (OBo cyI h b1 b2 hu ht hw wr hm) ++ ((CBc cyI cyZ hu u1 u2 u3 (u.1, u.2.1, u.2.2.1, u.2.2.2.1, u.2.2.2.2.1, u.2.2.2.2.2.1, u.2.2.2.2.2.2.1, u.2.2.2.2.2.2.2.1, u.2.2.2.2.2.2.2.2.1, u.2.2.2.2.2.2.2.2.2.1, u.2.2.2.2.2.2.2.2.2.2)) ++ ((CBc cyI cyZ ht t1 t2 t3 (tr.1, tr.2.1, tr.2.2.1, tr.2.2.2.1, tr.2.2.2.2.1, tr.2.2.2.2.2.1, tr.2.2.2.2.2.2.1, tr.2.2.2.2.2.2.2.1, tr.2.2.2.2.2.2.2.2.1, tr.2.2.2.2.2.2.2.2.2.1, tr.2.2.2.2.2.2.2.2.2.2)) ++ (LAc cyI cyZ hw l1 l2 (la.1, la.2.1, la.2.2.1, la.2.2.2))))) (w1 := ([] : va_W)) (ws' := (OBo cyI h b1 b2 hu ht hw wr hm) ++ ((CBc cyI cyZ hu u1 u2 u3 (u.1, u.2.1, u.2.2.1, u.2.2.2.1, u.2.2.2.2.1, u.2.2.2.2.2.1, u.2.2.2.2.2.2.1, u.2.2.2.2.2.2.2.1, u.2.2.2.2.2.2.2.2.1, u.2.2.2.2.2.2.2.2.2.1, u.2.2.2.2.2.2.2.2.2.2)) ++ ((CBc cyI cyZ ht t1 t2 t3 (tr.1, tr.2.1, tr.2.2.1, tr.2.2.2.1, tr.2.2.2.2.1, tr.2.2.2.2.2.1, tr.2.2.2.2.2.2.1, tr.2.2.2.2.2.2.2.1, tr.2.2.2.2.2.2.2.2.1, tr.2.2.2.2.2.2.2.2.2.1, tr.2.2.2.2.2.2.2.2.2.2)) ++ (LAc cyI cyZ hw l1 l2 (la.1, la.2.1, la.2.2.1, la.2.2.2))))) (isC := []) (isR := [0, 1, 2, 3, 4, 5, 6, 7, 8, 9, 10, 11, 12, 13]) (ps := [0, 1, 2, 3, 4, 5, 6, 7, 8, 9, 10, 11, 12, 13]) (As := [.int (nI a)]) (rest := [.ref u3]) (c_lineOf l D cyI cyZ cyJ a (by omega)) ⟨hx, hb, hown, hts⟩ gX2_atHome_X2_lineOf rfl ⟨by decide, by decide, by decide +kernel⟩ ⟨Nat.le_of_ble_eq_true rfl, Nat.le_of_ble_eq_true rfl⟩ ⟨rfl, rfl⟩ hml hl.1 hK hP hD hS hA ⟨rfl, rfl, rfl, rfl, rfl, rfl, rfl⟩ rfl rfl (Nat.le_of_ble_eq_true rfl) ⟨Nat.zero_le _, Nat.zero_le _⟩ dX2_atHome_12 (fun H locs hP hD hS => ?_)
  refine mq_zld (k := (a / 4)) u.2.2.2.2.2.1 hx hb hK hP 6 1 rfl rfl (by omega) (Nat.le_of_ble_eq_true rfl) dX2_atHome_15 ?_
  refine mq_bz (b := (u.2.2.2.2.2.1 (a / 4))) (tgt := 28) hx hb dX2_atHome_16 (by decide) (fun c1 => ?_) (fun c1 => ?_)
  · refine lv_aload_n hx hb dX2_atHome_28 rfl (lv_at hl 0 rfl) ?_
    refine va_get (D := D) (ci := 2) (v := .ref b1) (C := RX2) (T := TX2) (N := 5) hx hb hts hi_RX2 hown hK hP 0 rfl rfl 0 (by decide) hf_9 (fun _ h9 => h9) rfl dX2_atHome_29 ?_
    refine lv_iload_n hx hb dX2_atHome_32 rfl (lv_at hl 1 rfl) ?_
    refine mq_ldR (k := a) wr hx hb hK hP 1 0 rfl rfl (by omega) (Nat.le_of_ble_eq_true rfl) dX2_atHome_33 ?_
    exact CtI.ret hQ hx hb hr hlk hK hP hD hS dX2_atHome_34 (by rw [if_neg (by rw [show cb_dt u (a / 4) = _ from c1]; exact Bool.false_ne_true)]) rfl
  · refine lv_aload_n hx hb dX2_atHome_19 rfl (lv_at hl 0 rfl) ?_
    refine va_get (D := D) (ci := 2) (v := .ref b2) (C := RX2) (T := TX2) (N := 5) hx hb hts hi_RX2 hown hK hP 0 rfl rfl 1 (by decide) hf_13 (fun _ h9 => h9) rfl dX2_atHome_20 ?_
    refine lv_iload_n hx hb dX2_atHome_23 rfl (lv_at hl 1 rfl) ?_
    refine mq_ldR (k := a) hm hx hb hK hP 2 0 rfl rfl (by omega) (Nat.le_of_ble_eq_true rfl) dX2_atHome_24 ?_
    refine lv_goto (tgt := 34) hx hb dX2_atHome_25 (by decide) ?_
    exact CtI.ret hQ hx hb hr hlk hK hP hD hS dX2_atHome_34 (by rw [if_pos (show cb_dt u (a / 4) = true from c1)]) rfl
abbrev rmX2_peek : Room := { frames := 1, cells := 0, slots := 0, locals := 21 }
set_option maxRecDepth 100000 in
set_option maxHeartbeats 4000000 in
theorem c_peek (l : Launch) (D : va_G) (cyI cyZ cyJ : ClassId) (h b1 b2 hu u1 u2 u3 ht t1 t2 t3 hw l1 l2 : Nat) (wr hm : Nat → Int32) (u tr : CBu) (la : LAu) (a : Nat) (ha : a < 1024) : CtI l yX2_peek wsX2_peek rmX2_peek D (T3 cyI cyZ cyJ) [.ref h, .int (nI a)] ((OBo cyI h b1 b2 hu ht hw wr hm) ++ ((CBc cyI cyZ hu u1 u2 u3 u) ++ ((CBc cyI cyZ ht t1 t2 t3 tr) ++ (LAc cyI cyZ hw l1 l2 la)))) (wr a) ((OBo cyI h b1 b2 hu ht hw wr hm) ++ ((CBc cyI cyZ hu u1 u2 u3 u) ++ ((CBc cyI cyZ ht t1 t2 t3 tr) ++ (LAc cyI cyZ hw l1 l2 la)))) := by
  refine CtI.of (cc := cX2_peek) (maxL := 2) (ret := (some .int)) (lv0 := [(0, .ref h), (1, .int (nI a))]) (by decide) rfl (Nat.le_of_ble_eq_true rfl) rfl ?_
  intro p e s m below meth c A ls args Q hx hb hml hr hlk hts hown hK hP hA hD hS hl hQ
  have hP : va_P D vwCl ((OBo cyI h b1 b2 hu ht hw wr hm) ++ ((CBc cyI cyZ hu u1 u2 u3 (u.1, u.2.1, u.2.2.1, u.2.2.2.1, u.2.2.2.2.1, u.2.2.2.2.2.1, u.2.2.2.2.2.2.1, u.2.2.2.2.2.2.2.1, u.2.2.2.2.2.2.2.2.1, u.2.2.2.2.2.2.2.2.2.1, u.2.2.2.2.2.2.2.2.2.2)) ++ ((CBc cyI cyZ ht t1 t2 t3 (tr.1, tr.2.1, tr.2.2.1, tr.2.2.2.1, tr.2.2.2.2.1, tr.2.2.2.2.2.1, tr.2.2.2.2.2.2.1, tr.2.2.2.2.2.2.2.1, tr.2.2.2.2.2.2.2.2.1, tr.2.2.2.2.2.2.2.2.2.1, tr.2.2.2.2.2.2.2.2.2.2)) ++ (LAc cyI cyZ hw l1 l2 (la.1, la.2.1, la.2.2.1, la.2.2.2))))) s.heap := hP
  have hD : va_D A ((OBo cyI h b1 b2 hu ht hw wr hm) ++ ((CBc cyI cyZ hu u1 u2 u3 (u.1, u.2.1, u.2.2.1, u.2.2.2.1, u.2.2.2.2.1, u.2.2.2.2.2.1, u.2.2.2.2.2.2.1, u.2.2.2.2.2.2.2.1, u.2.2.2.2.2.2.2.2.1, u.2.2.2.2.2.2.2.2.2.1, u.2.2.2.2.2.2.2.2.2.2)) ++ ((CBc cyI cyZ ht t1 t2 t3 (tr.1, tr.2.1, tr.2.2.1, tr.2.2.2.1, tr.2.2.2.2.1, tr.2.2.2.2.2.1, tr.2.2.2.2.2.2.1, tr.2.2.2.2.2.2.2.1, tr.2.2.2.2.2.2.2.2.1, tr.2.2.2.2.2.2.2.2.2.1, tr.2.2.2.2.2.2.2.2.2.2)) ++ (LAc cyI cyZ hw l1 l2 (la.1, la.2.1, la.2.2.1, la.2.2.2))))) := hD
  have hown : s.vm.findClass RX2 = some m.cls := hown
  have hi_RX2 : ∀ w ∈ wsX20, w ∈ wsX2_peek := by decide +kernel
  have hf_9 := hts (.fieldLink RX2 9 "OutcastBench" "written" "[I") (by decide +kernel)
  refine lv_iload_n hx hb dX2_peek_0 rfl (lv_at hl 1 rfl) ?_
  refine CtV.callS (n := 1) (wc := ([] : va_W)) (wr := (OBo cyI h b1 b2 hu ht hw wr hm) ++ ((CBc cyI cyZ hu u1 u2 u3 (u.1, u.2.1, u.2.2.1, u.2.2.2.1, u.2.2.2.2.1, u.2.2.2.2.2.1, u.2.2.2.2.2.2.1, u.2.2.2.2.2.2.2.1, u.2.2.2.2.2.2.2.2.1, u.2.2.2.2.2.2.2.2.2.1, u.2.2.2.2.2.2.2.2.2.2)) ++ ((CBc cyI cyZ ht t1 t2 t3 (tr.1, tr.2.1, tr.2.2.1, tr.2.2.2.1, tr.2.2.2.2.1, tr.2.2.2.2.2.1, tr.2.2.2.2.2.2.1, tr.2.2.2.2.2.2.2.1, tr.2.2.2.2.2.2.2.2.1, tr.2.2.2.2.2.2.2.2.2.1, tr.2.2.2.2.2.2.2.2.2.2)) ++ (LAc cyI cyZ hw l1 l2 (la.1, la.2.1, la.2.2.1, la.2.2.2))))) (w1 := ([] : va_W)) (ws' := (OBo cyI h b1 b2 hu ht hw wr hm) ++ ((CBc cyI cyZ hu u1 u2 u3 (u.1, u.2.1, u.2.2.1, u.2.2.2.1, u.2.2.2.2.1, u.2.2.2.2.2.1, u.2.2.2.2.2.2.1, u.2.2.2.2.2.2.2.1, u.2.2.2.2.2.2.2.2.1, u.2.2.2.2.2.2.2.2.2.1, u.2.2.2.2.2.2.2.2.2.2)) ++ ((CBc cyI cyZ ht t1 t2 t3 (tr.1, tr.2.1, tr.2.2.1, tr.2.2.2.1, tr.2.2.2.2.1, tr.2.2.2.2.2.1, tr.2.2.2.2.2.2.1, tr.2.2.2.2.2.2.2.1, tr.2.2.2.2.2.2.2.2.1, tr.2.2.2.2.2.2.2.2.2.1, tr.2.2.2.2.2.2.2.2.2.2)) ++ (LAc cyI cyZ hw l1 l2 (la.1, la.2.1, la.2.2.1, la.2.2.2))))) (isC := []) (isR := [0, 1, 2, 3, 4, 5, 6, 7, 8, 9, 10, 11, 12, 13]) (ps := [0, 1, 2, 3, 4, 5, 6, 7, 8, 9, 10, 11, 12, 13]) (As := [.int (nI a)]) (rest := []) (c_requireWord l D cyI cyZ cyJ a ha) ⟨hx, hb, hown, hts⟩ gX2_peek_X2_requireWord rfl ⟨by decide, by decide, by decide +kernel⟩ ⟨Nat.le_of_ble_eq_true rfl, Nat.le_of_ble_eq_true rfl⟩ ⟨rfl, rfl⟩ hml hl.1 hK hP hD hS hA ⟨rfl, rfl, rfl, rfl, rfl, rfl, rfl⟩ rfl rfl (Nat.le_of_ble_eq_true rfl) ⟨Nat.zero_le _, Nat.zero_le _⟩ dX2_peek_1 (fun H locs hP hD hS => ?_)
  refine lv_aload_n hx hb dX2_peek_4 rfl (lv_at hl 0 rfl) ?_
  refine va_get (D := D) (ci := 2) (v := .ref b1) (C := RX2) (T := TX2) (N := 5) hx hb hts hi_RX2 hown hK hP 0 rfl rfl 0 (by decide) hf_9 (fun _ h9 => h9) rfl dX2_peek_5 ?_
  refine lv_iload_n hx hb dX2_peek_8 rfl (lv_at hl 1 rfl) ?_
  refine mq_ldR (k := a) wr hx hb hK hP 1 0 rfl rfl (by omega) (Nat.le_of_ble_eq_true rfl) dX2_peek_9 ?_
  exact CtI.ret hQ hx hb hr hlk hK hP hD hS dX2_peek_10 rfl rfl
end
section
abbrev rmJ9_floorMod_7cf53 : Room := { frames := 0, cells := 0, slots := 0, locals := 0 }
set_option maxRecDepth 100000 in
set_option maxHeartbeats 4000000 in
theorem c_fm (l : Launch) (D : va_G) (cyI cyZ cyJ : ClassId) (a : Nat) (z : Int) (ha : a < 1024) (hz1 : -64 ≤ z) (hz2 : z ≤ 64) : CtI l yJ9_floorMod_7cf53 wsJ9_floorMod_7cf53 rmJ9_floorMod_7cf53 D (T3 cyI cyZ cyJ) [.int (nI a + Int32.ofInt z), .int (nI 1024)] (([] : va_W)) (nI (nxt a z)) (([] : va_W)) := by
  refine CtI.ofF (cc := cJ9_floorMod_7cf53) (maxL := 3) (ret := (some .int)) (lv0 := [(0, .int (nI a + Int32.ofInt z)), (1, .int (nI 1024))]) (by decide +kernel) rfl (Nat.le_of_ble_eq_true rfl) rfl ?_
  intro p e s m below meth c A ls args Q hx hb hml hr hlk hts hown hK hP hA hD hS hl hQ
  have hown : s.vm.findClass RJ9 = some m.cls := hown
  rcases Int.lt_or_le ((a : Int) + z) 0 with hp | hp
  · rw [fm_neg a z hp] at hl
    obtain ⟨f1, f2, f3, f4⟩ := fm_all ⟨(-((a : Int) + z)).toNat, by omega⟩ (by show 0 < (-((a : Int) + z)).toNat; omega)
    dsimp only at f1 f2 f3 f4
    refine lv_iload_n hx hb dJ9_floorMod_7cf53_0 rfl (lv_at hl 0 rfl) ?_
    refine lv_iload_n hx hb dJ9_floorMod_7cf53_1 rfl (lv_at hl 1 rfl) ?_
    refine lv_irem (x := -nI (-((a : Int) + z)).toNat) (y := 1024) hx hb dJ9_floorMod_7cf53_2 (by decide) ?_
    rw [show ((-nI (-((a : Int) + z)).toNat) - (-nI (-((a : Int) + z)).toNat) / 1024 * 1024) = (-nI (-((a : Int) + z)).toNat) from f1]
    refine lv_istore_n (lv' := [(2, .int (-nI (-((a : Int) + z)).toNat)), (0, .int (-nI (-((a : Int) + z)).toNat)), (1, .int (nI 1024))]) hx hb dJ9_floorMod_7cf53_3 rfl hl (by decide) rfl (fun ls hl => ?_)
    refine lv_iload_n hx hb dJ9_floorMod_7cf53_4 rfl (lv_at hl 1 rfl) ?_
    refine lv_iload_n hx hb dJ9_floorMod_7cf53_5 rfl (lv_at hl 2 rfl) ?_
    refine lv_ixor (x := -nI (-((a : Int) + z)).toNat) (y := 1024) hx hb dJ9_floorMod_7cf53_6 ?_
    refine lv_if_ge (x := (-nI (-((a : Int) + z)).toNat) ^^^ 1024) (tgt := 18) hx hb dJ9_floorMod_7cf53_7 (by decide) (fun c1 => ?_) (fun c1 => ?_)
    · exact absurd f2 (Int32.not_lt.mpr c1)
    · refine lv_iload_n hx hb dJ9_floorMod_7cf53_10 rfl (lv_at hl 0 rfl) ?_
      refine lv_if_eq (x := -nI (-((a : Int) + z)).toNat) (tgt := 18) hx hb dJ9_floorMod_7cf53_11 (by decide) (fun c2 => ?_) (fun c2 => ?_)
      · exact absurd c2 f3
      · refine lv_iload_n hx hb dJ9_floorMod_7cf53_14 rfl (lv_at hl 0 rfl) ?_
        refine lv_iload_n hx hb dJ9_floorMod_7cf53_15 rfl (lv_at hl 2 rfl) ?_
        refine lv_iadd (x := -nI (-((a : Int) + z)).toNat) (y := 1024) hx hb dJ9_floorMod_7cf53_16 ?_
        exact CtI.ret hQ hx hb hr hlk hK hP hD hS dJ9_floorMod_7cf53_17 (f4.trans (congrArg nI (nxt_neg hp (by omega)))) rfl
  · rw [fm_pos a z hp] at hl
    refine lv_iload_n hx hb dJ9_floorMod_7cf53_0 rfl (lv_at hl 0 rfl) ?_
    refine lv_iload_n hx hb dJ9_floorMod_7cf53_1 rfl (lv_at hl 1 rfl) ?_
    refine mq_irem (x := (((a : Int) + z).toNat)) (y := 1024) (by omega) (by decide) (by decide) hx hb dJ9_floorMod_7cf53_2 ?_
    refine lv_istore_n (lv' := [(2, .int (nI ((((a : Int) + z).toNat) % 1024))), (0, .int (nI (((a : Int) + z).toNat))), (1, .int (nI 1024))]) hx hb dJ9_floorMod_7cf53_3 rfl hl (by decide) rfl (fun ls hl => ?_)
    refine lv_iload_n hx hb dJ9_floorMod_7cf53_4 rfl (lv_at hl 1 rfl) ?_
    refine lv_iload_n hx hb dJ9_floorMod_7cf53_5 rfl (lv_at hl 2 rfl) ?_
    refine lv_ixor (x := nI (((a : Int) + z).toNat)) (y := 1024) hx hb dJ9_floorMod_7cf53_6 ?_
    refine lv_if_ge (x := (nI (((a : Int) + z).toNat)) ^^^ 1024) (tgt := 18) hx hb dJ9_floorMod_7cf53_7 (by decide) (fun c1 => ?_) (fun c1 => ?_)
    · refine lv_iload_n hx hb dJ9_floorMod_7cf53_18 rfl (lv_at hl 0 rfl) ?_
      exact CtI.ret hQ hx hb hr hlk hK hP hD hS dJ9_floorMod_7cf53_19 (congrArg nI (nxt_pos hp)) rfl
    · exact absurd (show nI ((a : Int) + z).toNat ^^^ nI 1024 < 0 from Int32.not_le.mp c1) (fm_x (by omega))
abbrev rmX2_walk : Room := { frames := 4, cells := 0, slots := 0, locals := 90 }
set_option maxRecDepth 100000 in
set_option maxHeartbeats 4000000 in
theorem c_walk (l : Launch) (D : va_G) (cyI cyZ cyJ : ClassId) (h b1 b2 hu u1 u2 u3 ht t1 t2 t3 hw l1 l2 : Nat) (wr hm : Nat → Int32) (u tr : CBu) (la : LAu) (a : Nat) (z : Int) (k : Nat) (hbd : cb_bd u) (hla : la_bd la) (ha : a < 1024) (hz1 : -64 ≤ z) (hz2 : z ≤ 64) (hk1 : 1 ≤ k) (hk2 : k ≤ 100) : CtI l yX2_walk wsX2_walk rmX2_walk D (T3 cyI cyZ cyJ) [.ref h, .int (nI a), .int (Int32.ofInt z), .int (nI k)] ((OBo cyI h b1 b2 hu ht hw wr hm) ++ ((CBc cyI cyZ hu u1 u2 u3 u) ++ ((CBc cyI cyZ ht t1 t2 t3 tr) ++ (LAc cyI cyZ hw l1 l2 la)))) (cb_co (ob_walk a z k u la).1 - cb_co u) ((OBo cyI h b1 b2 hu ht hw wr hm) ++ ((CBc cyI cyZ hu u1 u2 u3 ((ob_walk a z k u la).1)) ++ ((CBc cyI cyZ ht t1 t2 t3 tr) ++ (LAc cyI cyZ hw l1 l2 ((ob_walk a z k u la).2))))) := by
  refine CtI.of (cc := cX2_walk) (maxL := 7) (ret := (some .int)) (lv0 := [(0, .ref h), (1, .int (nI a)), (2, .int (Int32.ofInt z)), (3, .int (nI k))]) (by decide) rfl (Nat.le_of_ble_eq_true rfl) rfl ?_
  intro p e s m below meth c A ls args Q hx hb hml hr hlk hts hown hK hP hA hD hS hl hQ
  have hP : va_P D vwCl ((OBo cyI h b1 b2 hu ht hw wr hm) ++ ((CBc cyI cyZ hu u1 u2 u3 (u.1, u.2.1, u.2.2.1, u.2.2.2.1, u.2.2.2.2.1, u.2.2.2.2.2.1, u.2.2.2.2.2.2.1, u.2.2.2.2.2.2.2.1, u.2.2.2.2.2.2.2.2.1, u.2.2.2.2.2.2.2.2.2.1, u.2.2.2.2.2.2.2.2.2.2)) ++ ((CBc cyI cyZ ht t1 t2 t3 (tr.1, tr.2.1, tr.2.2.1, tr.2.2.2.1, tr.2.2.2.2.1, tr.2.2.2.2.2.1, tr.2.2.2.2.2.2.1, tr.2.2.2.2.2.2.2.1, tr.2.2.2.2.2.2.2.2.1, tr.2.2.2.2.2.2.2.2.2.1, tr.2.2.2.2.2.2.2.2.2.2)) ++ (LAc cyI cyZ hw l1 l2 (la.1, la.2.1, la.2.2.1, la.2.2.2))))) s.heap := hP
  have hD : va_D A ((OBo cyI h b1 b2 hu ht hw wr hm) ++ ((CBc cyI cyZ hu u1 u2 u3 (u.1, u.2.1, u.2.2.1, u.2.2.2.1, u.2.2.2.2.1, u.2.2.2.2.2.1, u.2.2.2.2.2.2.1, u.2.2.2.2.2.2.2.1, u.2.2.2.2.2.2.2.2.1, u.2.2.2.2.2.2.2.2.2.1, u.2.2.2.2.2.2.2.2.2.2)) ++ ((CBc cyI cyZ ht t1 t2 t3 (tr.1, tr.2.1, tr.2.2.1, tr.2.2.2.1, tr.2.2.2.2.1, tr.2.2.2.2.2.1, tr.2.2.2.2.2.2.1, tr.2.2.2.2.2.2.2.1, tr.2.2.2.2.2.2.2.2.1, tr.2.2.2.2.2.2.2.2.2.1, tr.2.2.2.2.2.2.2.2.2.2)) ++ (LAc cyI cyZ hw l1 l2 (la.1, la.2.1, la.2.2.1, la.2.2.2))))) := hD
  have hown : s.vm.findClass RX2 = some m.cls := hown
  have hi_RX0 : ∀ w ∈ wsX00, w ∈ wsX2_walk := by decide +kernel
  have hi_RX2 : ∀ w ∈ wsX20, w ∈ wsX2_walk := by decide +kernel
  have hf_21 := hts (.fieldLink RX2 21 "OutcastBench" "actual" "LOutcastBench$CacheAndBench;") (by decide +kernel)
  have hf_61 := hts (.fieldLink RX2 61 "OutcastBench$CacheAndBench" "costSoFar" "I") (by decide +kernel)
  refine lv_iload_n hx hb dX2_walk_0 rfl (lv_at hl 1 rfl) ?_
  refine CtV.callS (n := 1) (wc := ([] : va_W)) (wr := (OBo cyI h b1 b2 hu ht hw wr hm) ++ ((CBc cyI cyZ hu u1 u2 u3 (u.1, u.2.1, u.2.2.1, u.2.2.2.1, u.2.2.2.2.1, u.2.2.2.2.2.1, u.2.2.2.2.2.2.1, u.2.2.2.2.2.2.2.1, u.2.2.2.2.2.2.2.2.1, u.2.2.2.2.2.2.2.2.2.1, u.2.2.2.2.2.2.2.2.2.2)) ++ ((CBc cyI cyZ ht t1 t2 t3 (tr.1, tr.2.1, tr.2.2.1, tr.2.2.2.1, tr.2.2.2.2.1, tr.2.2.2.2.2.1, tr.2.2.2.2.2.2.1, tr.2.2.2.2.2.2.2.1, tr.2.2.2.2.2.2.2.2.1, tr.2.2.2.2.2.2.2.2.2.1, tr.2.2.2.2.2.2.2.2.2.2)) ++ (LAc cyI cyZ hw l1 l2 (la.1, la.2.1, la.2.2.1, la.2.2.2))))) (w1 := ([] : va_W)) (ws' := (OBo cyI h b1 b2 hu ht hw wr hm) ++ ((CBc cyI cyZ hu u1 u2 u3 (u.1, u.2.1, u.2.2.1, u.2.2.2.1, u.2.2.2.2.1, u.2.2.2.2.2.1, u.2.2.2.2.2.2.1, u.2.2.2.2.2.2.2.1, u.2.2.2.2.2.2.2.2.1, u.2.2.2.2.2.2.2.2.2.1, u.2.2.2.2.2.2.2.2.2.2)) ++ ((CBc cyI cyZ ht t1 t2 t3 (tr.1, tr.2.1, tr.2.2.1, tr.2.2.2.1, tr.2.2.2.2.1, tr.2.2.2.2.2.1, tr.2.2.2.2.2.2.1, tr.2.2.2.2.2.2.2.1, tr.2.2.2.2.2.2.2.2.1, tr.2.2.2.2.2.2.2.2.2.1, tr.2.2.2.2.2.2.2.2.2.2)) ++ (LAc cyI cyZ hw l1 l2 (la.1, la.2.1, la.2.2.1, la.2.2.2))))) (isC := []) (isR := [0, 1, 2, 3, 4, 5, 6, 7, 8, 9, 10, 11, 12, 13]) (ps := [0, 1, 2, 3, 4, 5, 6, 7, 8, 9, 10, 11, 12, 13]) (As := [.int (nI a)]) (rest := []) (c_requireWord l D cyI cyZ cyJ a ha) ⟨hx, hb, hown, hts⟩ gX2_walk_X2_requireWord rfl ⟨by decide, by decide, by decide +kernel⟩ ⟨Nat.le_of_ble_eq_true rfl, Nat.le_of_ble_eq_true rfl⟩ ⟨rfl, rfl⟩ hml hl.1 hK hP hD hS hA ⟨rfl, rfl, rfl, rfl, rfl, rfl, rfl⟩ rfl rfl (Nat.le_of_ble_eq_true rfl) ⟨Nat.zero_le _, Nat.zero_le _⟩ dX2_walk_1 (fun H locs hP hD hS => ?_)
  refine lv_iload_n hx hb dX2_walk_4 rfl (lv_at hl 2 rfl) ?_
  refine lv_bipush (v := -64) hx hb dX2_walk_5 (by decide) ?_
  refine lv_icmp_lt (x := Int32.ofInt z) (y := -64) (tgt := 27) hx hb dX2_walk_7 (by decide) (fun c1 => ?_) (fun c1 => ?_)
  · exact absurd c1 (ofInt_ge hz1 hz2)
  · refine lv_iload_n hx hb dX2_walk_10 rfl (lv_at hl 2 rfl) ?_
    refine lv_bipush (v := nI 64) hx hb dX2_walk_11 (by decide) ?_
    refine lv_icmp_gt (x := Int32.ofInt z) (y := 64) (tgt := 27) hx hb dX2_walk_13 (by decide) (fun c2 => ?_) (fun c2 => ?_)
    · exact absurd c2 (ofInt_le hz1 hz2)
    · refine lv_iload_n hx hb dX2_walk_16 rfl (lv_at hl 3 rfl) ?_
      refine lv_iconst (v := nI 1) hx hb dX2_walk_17 (by decide) ?_
      refine mq_lt (x := k) (y := 1) (tgt := 27) (by omega) (by omega) hx hb dX2_walk_18 (by decide) (fun c3 => ?_) (fun c3 => ?_)
      · exact absurd c3 (by omega)
      · refine lv_iload_n hx hb dX2_walk_21 rfl (lv_at hl 3 rfl) ?_
        refine lv_bipush (v := nI 100) hx hb dX2_walk_22 (by decide) ?_
        refine lv_icmp_le (x := nI k) (y := 100) (tgt := 37) hx hb dX2_walk_24 (by decide) (fun c4 => ?_) (fun c4 => ?_)
        · refine lv_aload_n hx hb dX2_walk_37 rfl (lv_at hl 0 rfl) ?_
          refine va_get (D := D) (ci := 2) (v := .ref hu) (C := RX2) (T := TX2) (N := 5) hx hb hts hi_RX2 hown hK hP 0 rfl rfl 2 (by decide) hf_21 (fun _ h9 => h9) rfl dX2_walk_38 ?_
          refine va_get (D := D) (ci := 0) (v := .int u.2.2.2.2.2.2.2.2.2.2) (C := RX0) (T := TX0) (N := 11) hx hb hts hi_RX0 hown hK hP 3 rfl rfl 10 (by decide) hf_61 (fun _ h9 => h9) rfl dX2_walk_41 ?_
          refine lv_istore (lv' := [(4, .int u.2.2.2.2.2.2.2.2.2.2), (0, .ref h), (1, .int (nI a)), (2, .int (Int32.ofInt z)), (3, .int (nI k))]) hx hb dX2_walk_44 hl (by decide) rfl (fun ls hl => ?_)
          refine lv_iload_n hx hb dX2_walk_46 rfl (lv_at hl 2 rfl) ?_
          refine lv_istore (lv' := [(5, .int (nI a)), (4, .int u.2.2.2.2.2.2.2.2.2.2), (0, .ref h), (1, .int (nI a)), (2, .int (Int32.ofInt z)), (3, .int (nI k))]) hx hb dX2_walk_47 hl (by decide) rfl (fun ls hl => ?_)
          refine lv_iconst (v := nI 0) hx hb dX2_walk_49 (by decide) ?_
          refine lv_istore (lv' := [(6, .int (nI 0)), (5, .int (nI a)), (4, .int u.2.2.2.2.2.2.2.2.2.2), (0, .ref h), (1, .int (nI a)), (2, .int (Int32.ofInt z)), (3, .int (nI k))]) hx hb dX2_walk_50 hl (by decide) rfl (fun ls hl => ?_)
          have LP52 : ∀ (fu : Nat) (j : Nat) (H : Heap) (locs : List Loc) (ls : Array Slot), (j ≤ k) → k - j < fu → va_P D vwCl ((OBo cyI h b1 b2 hu ht hw wr hm) ++ ((CBc cyI cyZ hu u1 u2 u3 (((ob_walk a z j u la).1).1, ((ob_walk a z j u la).1).2.1, ((ob_walk a z j u la).1).2.2.1, ((ob_walk a z j u la).1).2.2.2.1, ((ob_walk a z j u la).1).2.2.2.2.1, ((ob_walk a z j u la).1).2.2.2.2.2.1, ((ob_walk a z j u la).1).2.2.2.2.2.2.1, ((ob_walk a z j u la).1).2.2.2.2.2.2.2.1, ((ob_walk a z j u la).1).2.2.2.2.2.2.2.2.1, ((ob_walk a z j u la).1).2.2.2.2.2.2.2.2.2.1, ((ob_walk a z j u la).1).2.2.2.2.2.2.2.2.2.2)) ++ ((CBc cyI cyZ ht t1 t2 t3 (tr.1, tr.2.1, tr.2.2.1, tr.2.2.2.1, tr.2.2.2.2.1, tr.2.2.2.2.2.1, tr.2.2.2.2.2.2.1, tr.2.2.2.2.2.2.2.1, tr.2.2.2.2.2.2.2.2.1, tr.2.2.2.2.2.2.2.2.2.1, tr.2.2.2.2.2.2.2.2.2.2)) ++ (LAc cyI cyZ hw l1 l2 (((ob_walk a z j u la).2).1, ((ob_walk a z j u la).2).2.1, ((ob_walk a z j u la).2).2.2.1, ((ob_walk a z j u la).2).2.2.2))))) H → va_D A ((OBo cyI h b1 b2 hu ht hw wr hm) ++ ((CBc cyI cyZ hu u1 u2 u3 (((ob_walk a z j u la).1).1, ((ob_walk a z j u la).1).2.1, ((ob_walk a z j u la).1).2.2.1, ((ob_walk a z j u la).1).2.2.2.1, ((ob_walk a z j u la).1).2.2.2.2.1, ((ob_walk a z j u la).1).2.2.2.2.2.1, ((ob_walk a z j u la).1).2.2.2.2.2.2.1, ((ob_walk a z j u la).1).2.2.2.2.2.2.2.1, ((ob_walk a z j u la).1).2.2.2.2.2.2.2.2.1, ((ob_walk a z j u la).1).2.2.2.2.2.2.2.2.2.1, ((ob_walk a z j u la).1).2.2.2.2.2.2.2.2.2.2)) ++ ((CBc cyI cyZ ht t1 t2 t3 (tr.1, tr.2.1, tr.2.2.1, tr.2.2.2.1, tr.2.2.2.2.1, tr.2.2.2.2.2.1, tr.2.2.2.2.2.2.1, tr.2.2.2.2.2.2.2.1, tr.2.2.2.2.2.2.2.2.1, tr.2.2.2.2.2.2.2.2.2.1, tr.2.2.2.2.2.2.2.2.2.2)) ++ (LAc cyI cyZ hw l1 l2 (((ob_walk a z j u la).2).1, ((ob_walk a z j u la).2).2.1, ((ob_walk a z j u la).2).2.2.1, ((ob_walk a z j u la).2).2.2.2))))) → va_S A s.heap H locs → lv_has ls 7 [(0, .ref h), (1, .int (nI a)), (2, .int (Int32.ofInt z)), (3, .int (nI k)), (4, .int u.2.2.2.2.2.2.2.2.2.2), (5, .int (nI (adr a z j))), (6, .int (nI j))] → W p l e rmX2_walk s m args below meth c H locs 0 0 Q (F0 m 52 ls []) := by
            intro fu
            induction fu with
            | zero =>
              intro j H locs ls hjk hfu
              exact absurd hfu (Nat.not_lt_zero _)
            | succ fu ih =>
              intro j H locs ls hjk hfu hP hD hS hl
              refine lv_iload hx hb dX2_walk_52 (lv_at hl 6 rfl) ?_
              refine lv_iload_n hx hb dX2_walk_54 rfl (lv_at hl 3 rfl) ?_
              refine mq_ge (x := j) (y := k) (tgt := 86) (by omega) (by omega) hx hb dX2_walk_55 (by decide) (fun c5 => ?_) (fun c5 => ?_)
              · have e : j = k := by omega
                subst e
                refine lv_aload_n hx hb dX2_walk_86 rfl (lv_at hl 0 rfl) ?_
                refine va_get (D := D) (ci := 2) (v := .ref hu) (C := RX2) (T := TX2) (N := 5) hx hb hts hi_RX2 hown hK hP 0 rfl rfl 2 (by decide) hf_21 (fun _ h9 => h9) rfl dX2_walk_87 ?_
                refine va_get (D := D) (ci := 0) (v := .int (((ob_walk a z j u la).1).2.2.2.2.2.2.2.2.2.2)) (C := RX0) (T := TX0) (N := 11) hx hb hts hi_RX0 hown hK hP 3 rfl rfl 10 (by decide) hf_61 (fun _ h9 => h9) rfl dX2_walk_90 ?_
                refine lv_iload hx hb dX2_walk_93 (lv_at hl 4 rfl) ?_
                refine lv_isub (x := ((ob_walk a z j u la).1).2.2.2.2.2.2.2.2.2.2) (y := u.2.2.2.2.2.2.2.2.2.2) hx hb dX2_walk_95 ?_
                exact CtI.ret hQ hx hb hr hlk hK hP hD hS dX2_walk_96 rfl rfl
              · obtain ⟨hwb, hwl⟩ := ob_walk_bd (z := z) ha hbd hla j
                have haj := adr_lt z ha j
                refine lv_aload_n hx hb dX2_walk_58 rfl (lv_at hl 0 rfl) ?_
                refine lv_iload hx hb dX2_walk_59 (lv_at hl 5 rfl) ?_
                refine CtI.callS (n := 1) (wc := ([] : va_W)) (wr := (OBo cyI h b1 b2 hu ht hw wr hm) ++ ((CBc cyI cyZ hu u1 u2 u3 (((ob_walk a z j u la).1).1, ((ob_walk a z j u la).1).2.1, ((ob_walk a z j u la).1).2.2.1, ((ob_walk a z j u la).1).2.2.2.1, ((ob_walk a z j u la).1).2.2.2.2.1, ((ob_walk a z j u la).1).2.2.2.2.2.1, ((ob_walk a z j u la).1).2.2.2.2.2.2.1, ((ob_walk a z j u la).1).2.2.2.2.2.2.2.1, ((ob_walk a z j u la).1).2.2.2.2.2.2.2.2.1, ((ob_walk a z j u la).1).2.2.2.2.2.2.2.2.2.1, ((ob_walk a z j u la).1).2.2.2.2.2.2.2.2.2.2)) ++ ((CBc cyI cyZ ht t1 t2 t3 (tr.1, tr.2.1, tr.2.2.1, tr.2.2.2.1, tr.2.2.2.2.1, tr.2.2.2.2.2.1, tr.2.2.2.2.2.2.1, tr.2.2.2.2.2.2.2.1, tr.2.2.2.2.2.2.2.2.1, tr.2.2.2.2.2.2.2.2.2.1, tr.2.2.2.2.2.2.2.2.2.2)) ++ (LAc cyI cyZ hw l1 l2 (((ob_walk a z j u la).2).1, ((ob_walk a z j u la).2).2.1, ((ob_walk a z j u la).2).2.2.1, ((ob_walk a z j u la).2).2.2.2))))) (w1 := ([] : va_W)) (ws' := (OBo cyI h b1 b2 hu ht hw wr hm) ++ ((CBc cyI cyZ hu u1 u2 u3 (((ob_walk a z j u la).1).1, ((ob_walk a z j u la).1).2.1, ((ob_walk a z j u la).1).2.2.1, ((ob_walk a z j u la).1).2.2.2.1, ((ob_walk a z j u la).1).2.2.2.2.1, ((ob_walk a z j u la).1).2.2.2.2.2.1, ((ob_walk a z j u la).1).2.2.2.2.2.2.1, ((ob_walk a z j u la).1).2.2.2.2.2.2.2.1, ((ob_walk a z j u la).1).2.2.2.2.2.2.2.2.1, ((ob_walk a z j u la).1).2.2.2.2.2.2.2.2.2.1, ((ob_walk a z j u la).1).2.2.2.2.2.2.2.2.2.2)) ++ ((CBc cyI cyZ ht t1 t2 t3 (tr.1, tr.2.1, tr.2.2.1, tr.2.2.2.1, tr.2.2.2.2.1, tr.2.2.2.2.2.1, tr.2.2.2.2.2.2.1, tr.2.2.2.2.2.2.2.1, tr.2.2.2.2.2.2.2.2.1, tr.2.2.2.2.2.2.2.2.2.1, tr.2.2.2.2.2.2.2.2.2.2)) ++ (LAc cyI cyZ hw l1 l2 (((ob_walk a z j u la).2).1, ((ob_walk a z j u la).2).2.1, ((ob_walk a z j u la).2).2.2.1, ((ob_walk a z j u la).2).2.2.2))))) (isC := []) (isR := [0, 1, 2, 3, 4, 5, 6, 7, 8, 9, 10, 11, 12, 13]) (ps := [0, 1, 2, 3, 4, 5, 6, 7, 8, 9, 10, 11, 12, 13]) (As := [.int (nI (adr a z j))]) (rest := [.ref h]) (c_lineOf l D cyI cyZ cyJ (adr a z j) (by omega)) ⟨hx, hb, hown, hts⟩ gX2_walk_X2_lineOf rfl ⟨by decide, by decide, by decide +kernel⟩ ⟨Nat.le_of_ble_eq_true rfl, Nat.le_of_ble_eq_true rfl⟩ ⟨rfl, rfl⟩ hml hl.1 hK hP hD hS hA ⟨rfl, rfl, rfl, rfl, rfl, rfl, rfl⟩ rfl rfl (Nat.le_of_ble_eq_true rfl) ⟨Nat.zero_le _, Nat.zero_le _⟩ dX2_walk_61 (fun H locs hP hD hS => ?_)
                refine lv_iconst (v := nI 0) hx hb dX2_walk_64 (by decide) ?_
                refine CtV.callV (n := 2) (q0 := 0) (ci := 2) (wc := (OBo cyI h b1 b2 hu ht hw wr hm) ++ ((CBc cyI cyZ hu u1 u2 u3 (((ob_walk a z j u la).1).1, ((ob_walk a z j u la).1).2.1, ((ob_walk a z j u la).1).2.2.1, ((ob_walk a z j u la).1).2.2.2.1, ((ob_walk a z j u la).1).2.2.2.2.1, ((ob_walk a z j u la).1).2.2.2.2.2.1, ((ob_walk a z j u la).1).2.2.2.2.2.2.1, ((ob_walk a z j u la).1).2.2.2.2.2.2.2.1, ((ob_walk a z j u la).1).2.2.2.2.2.2.2.2.1, ((ob_walk a z j u la).1).2.2.2.2.2.2.2.2.2.1, ((ob_walk a z j u la).1).2.2.2.2.2.2.2.2.2.2)) ++ ((CBc cyI cyZ ht t1 t2 t3 (tr.1, tr.2.1, tr.2.2.1, tr.2.2.2.1, tr.2.2.2.2.1, tr.2.2.2.2.2.1, tr.2.2.2.2.2.2.1, tr.2.2.2.2.2.2.2.1, tr.2.2.2.2.2.2.2.2.1, tr.2.2.2.2.2.2.2.2.2.1, tr.2.2.2.2.2.2.2.2.2.2)) ++ (LAc cyI cyZ hw l1 l2 (((ob_walk a z j u la).2).1, ((ob_walk a z j u la).2).2.1, ((ob_walk a z j u la).2).2.2.1, ((ob_walk a z j u la).2).2.2.2))))) (wr := ([] : va_W)) (w1 := (OBo cyI h b1 b2 hu ht hw wr hm) ++ ((CBc cyI cyZ hu u1 u2 u3 ((cb_acc (adr a z j / 4) false ((ob_walk a z j u la).1)).1, (cb_acc (adr a z j / 4) false ((ob_walk a z j u la).1)).2.1, (cb_acc (adr a z j / 4) false ((ob_walk a z j u la).1)).2.2.1, (cb_acc (adr a z j / 4) false ((ob_walk a z j u la).1)).2.2.2.1, (cb_acc (adr a z j / 4) false ((ob_walk a z j u la).1)).2.2.2.2.1, (cb_acc (adr a z j / 4) false ((ob_walk a z j u la).1)).2.2.2.2.2.1, (cb_acc (adr a z j / 4) false ((ob_walk a z j u la).1)).2.2.2.2.2.2.1, (cb_acc (adr a z j / 4) false ((ob_walk a z j u la).1)).2.2.2.2.2.2.2.1, (cb_acc (adr a z j / 4) false ((ob_walk a z j u la).1)).2.2.2.2.2.2.2.2.1, (cb_acc (adr a z j / 4) false ((ob_walk a z j u la).1)).2.2.2.2.2.2.2.2.2.1, (cb_acc (adr a z j / 4) false ((ob_walk a z j u la).1)).2.2.2.2.2.2.2.2.2.2)) ++ ((CBc cyI cyZ ht t1 t2 t3 (tr.1, tr.2.1, tr.2.2.1, tr.2.2.2.1, tr.2.2.2.2.1, tr.2.2.2.2.2.1, tr.2.2.2.2.2.2.1, tr.2.2.2.2.2.2.2.1, tr.2.2.2.2.2.2.2.2.1, tr.2.2.2.2.2.2.2.2.2.1, tr.2.2.2.2.2.2.2.2.2.2)) ++ (LAc cyI cyZ hw l1 l2 ((la_add (adr a z j / 4) false ((ob_walk a z j u la).2)).1, (la_add (adr a z j / 4) false ((ob_walk a z j u la).2)).2.1, (la_add (adr a z j / 4) false ((ob_walk a z j u la).2)).2.2.1, (la_add (adr a z j / 4) false ((ob_walk a z j u la).2)).2.2.2))))) (ws' := (OBo cyI h b1 b2 hu ht hw wr hm) ++ ((CBc cyI cyZ hu u1 u2 u3 ((cb_acc (adr a z j / 4) false ((ob_walk a z j u la).1)).1, (cb_acc (adr a z j / 4) false ((ob_walk a z j u la).1)).2.1, (cb_acc (adr a z j / 4) false ((ob_walk a z j u la).1)).2.2.1, (cb_acc (adr a z j / 4) false ((ob_walk a z j u la).1)).2.2.2.1, (cb_acc (adr a z j / 4) false ((ob_walk a z j u la).1)).2.2.2.2.1, (cb_acc (adr a z j / 4) false ((ob_walk a z j u la).1)).2.2.2.2.2.1, (cb_acc (adr a z j / 4) false ((ob_walk a z j u la).1)).2.2.2.2.2.2.1, (cb_acc (adr a z j / 4) false ((ob_walk a z j u la).1)).2.2.2.2.2.2.2.1, (cb_acc (adr a z j / 4) false ((ob_walk a z j u la).1)).2.2.2.2.2.2.2.2.1, (cb_acc (adr a z j / 4) false ((ob_walk a z j u la).1)).2.2.2.2.2.2.2.2.2.1, (cb_acc (adr a z j / 4) false ((ob_walk a z j u la).1)).2.2.2.2.2.2.2.2.2.2)) ++ ((CBc cyI cyZ ht t1 t2 t3 (tr.1, tr.2.1, tr.2.2.1, tr.2.2.2.1, tr.2.2.2.2.1, tr.2.2.2.2.2.1, tr.2.2.2.2.2.2.1, tr.2.2.2.2.2.2.2.1, tr.2.2.2.2.2.2.2.2.1, tr.2.2.2.2.2.2.2.2.2.1, tr.2.2.2.2.2.2.2.2.2.2)) ++ (LAc cyI cyZ hw l1 l2 ((la_add (adr a z j / 4) false ((ob_walk a z j u la).2)).1, (la_add (adr a z j / 4) false ((ob_walk a z j u la).2)).2.1, (la_add (adr a z j / 4) false ((ob_walk a z j u la).2)).2.2.1, (la_add (adr a z j / 4) false ((ob_walk a z j u la).2)).2.2.2))))) (isC := [0, 1, 2, 3, 4, 5, 6, 7, 8, 9, 10, 11, 12, 13]) (isR := []) (ps := [0, 1, 2, 3, 4, 5, 6, 7, 8, 9, 10, 11, 12, 13]) (As := [.int (nI (adr a z j / 4)), .int (bI false)]) (rest := []) (c_ask l D cyI cyZ cyJ h b1 b2 hu u1 u2 u3 ht t1 t2 t3 hw l1 l2 wr hm ((ob_walk a z j u la).1) tr ((ob_walk a z j u la).2) (adr a z j / 4) false hwb (by omega) hwl) ⟨hx, hb, hown, hts⟩ gX2_walk_X2_ask rfl ⟨rfl, by decide, by decide, by decide +kernel⟩ ⟨Nat.le_of_ble_eq_true rfl, Nat.le_of_ble_eq_true rfl⟩ ⟨rfl, rfl⟩ hml hl.1 hK hP hD hS hA ⟨rfl, rfl, rfl, rfl, rfl, rfl, rfl⟩ rfl ⟨rfl, rfl⟩ rfl rfl (Nat.le_of_ble_eq_true rfl) ⟨Nat.zero_le _, Nat.zero_le _⟩ dX2_walk_65 (fun H locs hP hD hS => ?_)
                refine lv_iload hx hb dX2_walk_68 (lv_at hl 5 rfl) ?_
                refine lv_iload_n hx hb dX2_walk_70 rfl (lv_at hl 2 rfl) ?_
                refine lv_iadd (x := nI (adr a z j)) (y := Int32.ofInt z) hx hb dX2_walk_71 ?_
                refine lv_sipush (v := nI 1024) hx hb dX2_walk_72 (by decide) ?_
                refine CtI.callS (n := 2) (wc := ([] : va_W)) (wr := (OBo cyI h b1 b2 hu ht hw wr hm) ++ ((CBc cyI cyZ hu u1 u2 u3 ((cb_acc (adr a z j / 4) false ((ob_walk a z j u la).1)).1, (cb_acc (adr a z j / 4) false ((ob_walk a z j u la).1)).2.1, (cb_acc (adr a z j / 4) false ((ob_walk a z j u la).1)).2.2.1, (cb_acc (adr a z j / 4) false ((ob_walk a z j u la).1)).2.2.2.1, (cb_acc (adr a z j / 4) false ((ob_walk a z j u la).1)).2.2.2.2.1, (cb_acc (adr a z j / 4) false ((ob_walk a z j u la).1)).2.2.2.2.2.1, (cb_acc (adr a z j / 4) false ((ob_walk a z j u la).1)).2.2.2.2.2.2.1, (cb_acc (adr a z j / 4) false ((ob_walk a z j u la).1)).2.2.2.2.2.2.2.1, (cb_acc (adr a z j / 4) false ((ob_walk a z j u la).1)).2.2.2.2.2.2.2.2.1, (cb_acc (adr a z j / 4) false ((ob_walk a z j u la).1)).2.2.2.2.2.2.2.2.2.1, (cb_acc (adr a z j / 4) false ((ob_walk a z j u la).1)).2.2.2.2.2.2.2.2.2.2)) ++ ((CBc cyI cyZ ht t1 t2 t3 (tr.1, tr.2.1, tr.2.2.1, tr.2.2.2.1, tr.2.2.2.2.1, tr.2.2.2.2.2.1, tr.2.2.2.2.2.2.1, tr.2.2.2.2.2.2.2.1, tr.2.2.2.2.2.2.2.2.1, tr.2.2.2.2.2.2.2.2.2.1, tr.2.2.2.2.2.2.2.2.2.2)) ++ (LAc cyI cyZ hw l1 l2 ((la_add (adr a z j / 4) false ((ob_walk a z j u la).2)).1, (la_add (adr a z j / 4) false ((ob_walk a z j u la).2)).2.1, (la_add (adr a z j / 4) false ((ob_walk a z j u la).2)).2.2.1, (la_add (adr a z j / 4) false ((ob_walk a z j u la).2)).2.2.2))))) (w1 := ([] : va_W)) (ws' := (OBo cyI h b1 b2 hu ht hw wr hm) ++ ((CBc cyI cyZ hu u1 u2 u3 ((cb_acc (adr a z j / 4) false ((ob_walk a z j u la).1)).1, (cb_acc (adr a z j / 4) false ((ob_walk a z j u la).1)).2.1, (cb_acc (adr a z j / 4) false ((ob_walk a z j u la).1)).2.2.1, (cb_acc (adr a z j / 4) false ((ob_walk a z j u la).1)).2.2.2.1, (cb_acc (adr a z j / 4) false ((ob_walk a z j u la).1)).2.2.2.2.1, (cb_acc (adr a z j / 4) false ((ob_walk a z j u la).1)).2.2.2.2.2.1, (cb_acc (adr a z j / 4) false ((ob_walk a z j u la).1)).2.2.2.2.2.2.1, (cb_acc (adr a z j / 4) false ((ob_walk a z j u la).1)).2.2.2.2.2.2.2.1, (cb_acc (adr a z j / 4) false ((ob_walk a z j u la).1)).2.2.2.2.2.2.2.2.1, (cb_acc (adr a z j / 4) false ((ob_walk a z j u la).1)).2.2.2.2.2.2.2.2.2.1, (cb_acc (adr a z j / 4) false ((ob_walk a z j u la).1)).2.2.2.2.2.2.2.2.2.2)) ++ ((CBc cyI cyZ ht t1 t2 t3 (tr.1, tr.2.1, tr.2.2.1, tr.2.2.2.1, tr.2.2.2.2.1, tr.2.2.2.2.2.1, tr.2.2.2.2.2.2.1, tr.2.2.2.2.2.2.2.1, tr.2.2.2.2.2.2.2.2.1, tr.2.2.2.2.2.2.2.2.2.1, tr.2.2.2.2.2.2.2.2.2.2)) ++ (LAc cyI cyZ hw l1 l2 ((la_add (adr a z j / 4) false ((ob_walk a z j u la).2)).1, (la_add (adr a z j / 4) false ((ob_walk a z j u la).2)).2.1, (la_add (adr a z j / 4) false ((ob_walk a z j u la).2)).2.2.1, (la_add (adr a z j / 4) false ((ob_walk a z j u la).2)).2.2.2))))) (isC := []) (isR := [0, 1, 2, 3, 4, 5, 6, 7, 8, 9, 10, 11, 12, 13]) (ps := [0, 1, 2, 3, 4, 5, 6, 7, 8, 9, 10, 11, 12, 13]) (As := [.int (nI (adr a z j) + Int32.ofInt z), .int (nI 1024)]) (rest := []) (c_fm l D cyI cyZ cyJ (adr a z j) z haj hz1 hz2) ⟨hx, hb, hown, hts⟩ gX2_walk_J9_floorMod_7cf53 rfl ⟨by decide, by decide, by decide +kernel⟩ ⟨Nat.le_of_ble_eq_true rfl, Nat.le_of_ble_eq_true rfl⟩ ⟨rfl, rfl⟩ hml hl.1 hK hP hD hS hA ⟨rfl, rfl, rfl, rfl, rfl, rfl, rfl⟩ rfl rfl (Nat.le_of_ble_eq_true rfl) ⟨Nat.zero_le _, Nat.zero_le _⟩ dX2_walk_75 (fun H locs hP hD hS => ?_)
                refine lv_istore (lv' := [(5, .int (nI (nxt (adr a z j) z))), (0, .ref h), (1, .int (nI a)), (2, .int (Int32.ofInt z)), (3, .int (nI k)), (4, .int u.2.2.2.2.2.2.2.2.2.2), (6, .int (nI j))]) hx hb dX2_walk_78 hl (by decide) rfl (fun ls hl => ?_)
                refine lv_iinc (v := nI (j + 1)) (lv' := [(6, .int (nI (j + 1))), (5, .int (nI (nxt (adr a z j) z))), (0, .ref h), (1, .int (nI a)), (2, .int (Int32.ofInt z)), (3, .int (nI k)), (4, .int u.2.2.2.2.2.2.2.2.2.2)]) hx hb dX2_walk_80 hl (k := 6) rfl (inc1 _) (by decide) rfl (fun ls hl => ?_)
                refine lv_goto (tgt := 52) hx hb dX2_walk_83 (by decide) ?_
                exact ih (j + 1) _ _ _ (by omega) (by omega) hP hD hS (lv_sub hl [2, 3, 4, 5, 6, 1, 0] rfl)
          exact LP52 _ 0 _ _ _ (Nat.zero_le _) (Nat.lt_succ_self _) hP hD hS (lv_sub hl [3, 4, 5, 6, 2, 1, 0] rfl)
        · exact absurd (nI_le hk2 (by decide)) c4
abbrev rmX2_costOfTrial : Room := { frames := 3, cells := 0, slots := 0, locals := 68 }
set_option maxRecDepth 100000 in
set_option maxHeartbeats 4000000 in
theorem c_costOfTrial (l : Launch) (D : va_G) (cyI cyZ cyJ : ClassId) (h b1 b2 hu u1 u2 u3 ht t1 t2 t3 hw l1 l2 : Nat) (wr hm : Nat → Int32) (u tr : CBu) (la : LAu) (s' p' : Nat) (hla : la_bd la) (hs : s' = 1 ∨ s' = 2 ∨ s' = 4 ∨ s' = 8 ∨ s' = 16) (hp : p' ≤ 8) : CtI l yX2_costOfTrial wsX2_costOfTrial rmX2_costOfTrial D (T3 cyI cyZ cyJ) [.ref h, .int (nI s'), .int (nI p')] ((OBo cyI h b1 b2 hu ht hw wr hm) ++ ((CBc cyI cyZ hu u1 u2 u3 u) ++ ((CBc cyI cyZ ht t1 t2 t3 tr) ++ (LAc cyI cyZ hw l1 l2 la)))) (cb_co (la_trial la s' p' tr) - cb_co tr) ((OBo cyI h b1 b2 hu ht hw wr hm) ++ ((CBc cyI cyZ hu u1 u2 u3 u) ++ ((CBc cyI cyZ ht t1 t2 t3 (la_trial la s' p' tr)) ++ (LAc cyI cyZ hw l1 l2 la)))) := by
  refine CtI.of (cc := cX2_costOfTrial) (maxL := 6) (ret := (some .int)) (lv0 := [(0, .ref h), (1, .int (nI s')), (2, .int (nI p'))]) (by decide) rfl (Nat.le_of_ble_eq_true rfl) rfl ?_
  intro p e s m below meth c A ls args Q hx hb hml hr hlk hts hown hK hP hA hD hS hl hQ
  have hP : va_P D vwCl ((OBo cyI h b1 b2 hu ht hw wr hm) ++ ((CBc cyI cyZ hu u1 u2 u3 (u.1, u.2.1, u.2.2.1, u.2.2.2.1, u.2.2.2.2.1, u.2.2.2.2.2.1, u.2.2.2.2.2.2.1, u.2.2.2.2.2.2.2.1, u.2.2.2.2.2.2.2.2.1, u.2.2.2.2.2.2.2.2.2.1, u.2.2.2.2.2.2.2.2.2.2)) ++ ((CBc cyI cyZ ht t1 t2 t3 (tr.1, tr.2.1, tr.2.2.1, tr.2.2.2.1, tr.2.2.2.2.1, tr.2.2.2.2.2.1, tr.2.2.2.2.2.2.1, tr.2.2.2.2.2.2.2.1, tr.2.2.2.2.2.2.2.2.1, tr.2.2.2.2.2.2.2.2.2.1, tr.2.2.2.2.2.2.2.2.2.2)) ++ (LAc cyI cyZ hw l1 l2 (la.1, la.2.1, la.2.2.1, la.2.2.2))))) s.heap := hP
  have hD : va_D A ((OBo cyI h b1 b2 hu ht hw wr hm) ++ ((CBc cyI cyZ hu u1 u2 u3 (u.1, u.2.1, u.2.2.1, u.2.2.2.1, u.2.2.2.2.1, u.2.2.2.2.2.1, u.2.2.2.2.2.2.1, u.2.2.2.2.2.2.2.1, u.2.2.2.2.2.2.2.2.1, u.2.2.2.2.2.2.2.2.2.1, u.2.2.2.2.2.2.2.2.2.2)) ++ ((CBc cyI cyZ ht t1 t2 t3 (tr.1, tr.2.1, tr.2.2.1, tr.2.2.2.1, tr.2.2.2.2.1, tr.2.2.2.2.2.1, tr.2.2.2.2.2.2.1, tr.2.2.2.2.2.2.2.1, tr.2.2.2.2.2.2.2.2.1, tr.2.2.2.2.2.2.2.2.2.1, tr.2.2.2.2.2.2.2.2.2.2)) ++ (LAc cyI cyZ hw l1 l2 (la.1, la.2.1, la.2.2.1, la.2.2.2))))) := hD
  have hown : s.vm.findClass RX2 = some m.cls := hown
  have hi_RX0 : ∀ w ∈ wsX00, w ∈ wsX2_costOfTrial := by decide +kernel
  have hi_RX1 : ∀ w ∈ wsX10, w ∈ wsX2_costOfTrial := by decide +kernel
  have hi_RX2 : ∀ w ∈ wsX20, w ∈ wsX2_costOfTrial := by decide +kernel
  have hf_25 := hts (.fieldLink RX2 25 "OutcastBench" "trial" "LOutcastBench$CacheAndBench;") (by decide +kernel)
  have hf_31 := hts (.fieldLink RX2 31 "OutcastBench" "last" "LOutcastBench$LastAccesses;") (by decide +kernel)
  have hf_61 := hts (.fieldLink RX2 61 "OutcastBench$CacheAndBench" "costSoFar" "I") (by decide +kernel)
  have hf_151 := hts (.fieldLink RX2 151 "OutcastBench$LastAccesses" "count" "I") (by decide +kernel)
  have hf_157 := hts (.fieldLink RX2 157 "OutcastBench$LastAccesses" "lines" "[I") (by decide +kernel)
  have hf_158 := hts (.fieldLink RX2 158 "OutcastBench$LastAccesses" "writes" "[Z") (by decide +kernel)
  refine lv_aload_n hx hb dX2_costOfTrial_0 rfl (lv_at hl 0 rfl) ?_
  refine va_get (D := D) (ci := 2) (v := .ref ht) (C := RX2) (T := TX2) (N := 5) hx hb hts hi_RX2 hown hK hP 0 rfl rfl 3 (by decide) hf_25 (fun _ h9 => h9) rfl dX2_costOfTrial_1 ?_
  refine lv_iload_n hx hb dX2_costOfTrial_4 rfl (lv_at hl 1 rfl) ?_
  refine lv_iload_n hx hb dX2_costOfTrial_5 rfl (lv_at hl 2 rfl) ?_
  refine CtV.callV (n := 2) (q0 := 0) (ci := 0) (wc := CBc cyI cyZ ht t1 t2 t3 (tr.1, tr.2.1, tr.2.2.1, tr.2.2.2.1, tr.2.2.2.2.1, tr.2.2.2.2.2.1, tr.2.2.2.2.2.2.1, tr.2.2.2.2.2.2.2.1, tr.2.2.2.2.2.2.2.2.1, tr.2.2.2.2.2.2.2.2.2.1, tr.2.2.2.2.2.2.2.2.2.2)) (wr := (OBo cyI h b1 b2 hu ht hw wr hm) ++ ((CBc cyI cyZ hu u1 u2 u3 (u.1, u.2.1, u.2.2.1, u.2.2.2.1, u.2.2.2.2.1, u.2.2.2.2.2.1, u.2.2.2.2.2.2.1, u.2.2.2.2.2.2.2.1, u.2.2.2.2.2.2.2.2.1, u.2.2.2.2.2.2.2.2.2.1, u.2.2.2.2.2.2.2.2.2.2)) ++ (LAc cyI cyZ hw l1 l2 (la.1, la.2.1, la.2.2.1, la.2.2.2)))) (w1 := CBc cyI cyZ ht t1 t2 t3 ((cb_empty s' p' tr).1, (cb_empty s' p' tr).2.1, (cb_empty s' p' tr).2.2.1, (cb_empty s' p' tr).2.2.2.1, (cb_empty s' p' tr).2.2.2.2.1, (cb_empty s' p' tr).2.2.2.2.2.1, (cb_empty s' p' tr).2.2.2.2.2.2.1, (cb_empty s' p' tr).2.2.2.2.2.2.2.1, (cb_empty s' p' tr).2.2.2.2.2.2.2.2.1, (cb_empty s' p' tr).2.2.2.2.2.2.2.2.2.1, (cb_empty s' p' tr).2.2.2.2.2.2.2.2.2.2)) (ws' := (OBo cyI h b1 b2 hu ht hw wr hm) ++ ((CBc cyI cyZ hu u1 u2 u3 (u.1, u.2.1, u.2.2.1, u.2.2.2.1, u.2.2.2.2.1, u.2.2.2.2.2.1, u.2.2.2.2.2.2.1, u.2.2.2.2.2.2.2.1, u.2.2.2.2.2.2.2.2.1, u.2.2.2.2.2.2.2.2.2.1, u.2.2.2.2.2.2.2.2.2.2)) ++ ((CBc cyI cyZ ht t1 t2 t3 ((cb_empty s' p' tr).1, (cb_empty s' p' tr).2.1, (cb_empty s' p' tr).2.2.1, (cb_empty s' p' tr).2.2.2.1, (cb_empty s' p' tr).2.2.2.2.1, (cb_empty s' p' tr).2.2.2.2.2.1, (cb_empty s' p' tr).2.2.2.2.2.2.1, (cb_empty s' p' tr).2.2.2.2.2.2.2.1, (cb_empty s' p' tr).2.2.2.2.2.2.2.2.1, (cb_empty s' p' tr).2.2.2.2.2.2.2.2.2.1, (cb_empty s' p' tr).2.2.2.2.2.2.2.2.2.2)) ++ (LAc cyI cyZ hw l1 l2 (la.1, la.2.1, la.2.2.1, la.2.2.2))))) (isC := [7, 8, 9, 10]) (isR := [0, 1, 2, 3, 4, 5, 6, 11, 12, 13]) (ps := [0, 1, 2, 3, 4, 5, 6, 10, 11, 12, 13, 7, 8, 9]) (As := [.int (nI s'), .int (nI p')]) (rest := []) (c_startEmptyU l D cyI cyZ cyJ ht t1 t2 t3 tr s' p') ⟨hx, hb, hown, hts⟩ gX2_costOfTrial_X0_startEmpty rfl ⟨rfl, by decide, by decide, by decide +kernel⟩ ⟨Nat.le_of_ble_eq_true rfl, Nat.le_of_ble_eq_true rfl⟩ ⟨rfl, rfl⟩ hml hl.1 hK hP hD hS hA ⟨rfl, rfl, rfl, rfl, rfl, rfl, rfl⟩ rfl ⟨rfl, rfl⟩ rfl rfl (Nat.le_of_ble_eq_true rfl) ⟨Nat.zero_le _, Nat.zero_le _⟩ dX2_costOfTrial_6 (fun H locs hP hD hS => ?_)
  refine lv_aload_n hx hb dX2_costOfTrial_9 rfl (lv_at hl 0 rfl) ?_
  refine va_get (D := D) (ci := 2) (v := .ref ht) (C := RX2) (T := TX2) (N := 5) hx hb hts hi_RX2 hown hK hP 0 rfl rfl 3 (by decide) hf_25 (fun _ h9 => h9) rfl dX2_costOfTrial_10 ?_
  refine va_get (D := D) (ci := 0) (v := .int ((cb_empty s' p' tr).2.2.2.2.2.2.2.2.2.2)) (C := RX0) (T := TX0) (N := 11) hx hb hts hi_RX0 hown hK hP 7 rfl rfl 10 (by decide) hf_61 (fun _ h9 => h9) rfl dX2_costOfTrial_13 ?_
  refine lv_istore_n (lv' := [(3, .int ((cb_empty s' p' tr).2.2.2.2.2.2.2.2.2.2)), (0, .ref h), (1, .int (nI s')), (2, .int (nI p'))]) hx hb dX2_costOfTrial_16 rfl hl (by decide) rfl (fun ls hl => ?_)
  refine lv_iconst (v := nI 0) hx hb dX2_costOfTrial_17 (by decide) ?_
  refine lv_istore (lv' := [(4, .int (nI 0)), (3, .int ((cb_empty s' p' tr).2.2.2.2.2.2.2.2.2.2)), (0, .ref h), (1, .int (nI s')), (2, .int (nI p'))]) hx hb dX2_costOfTrial_18 hl (by decide) rfl (fun ls hl => ?_)
  have LP20 : ∀ (fu : Nat) (k : Nat) (H : Heap) (locs : List Loc) (ls : Array Slot), (k ≤ la.2.2.1) → la.2.2.1 - k < fu → va_P D vwCl ((OBo cyI h b1 b2 hu ht hw wr hm) ++ ((CBc cyI cyZ hu u1 u2 u3 (u.1, u.2.1, u.2.2.1, u.2.2.2.1, u.2.2.2.2.1, u.2.2.2.2.2.1, u.2.2.2.2.2.2.1, u.2.2.2.2.2.2.2.1, u.2.2.2.2.2.2.2.2.1, u.2.2.2.2.2.2.2.2.2.1, u.2.2.2.2.2.2.2.2.2.2)) ++ ((CBc cyI cyZ ht t1 t2 t3 ((la_try la k (cb_empty s' p' tr)).1, (la_try la k (cb_empty s' p' tr)).2.1, (la_try la k (cb_empty s' p' tr)).2.2.1, (la_try la k (cb_empty s' p' tr)).2.2.2.1, (la_try la k (cb_empty s' p' tr)).2.2.2.2.1, (la_try la k (cb_empty s' p' tr)).2.2.2.2.2.1, (la_try la k (cb_empty s' p' tr)).2.2.2.2.2.2.1, (la_try la k (cb_empty s' p' tr)).2.2.2.2.2.2.2.1, (la_try la k (cb_empty s' p' tr)).2.2.2.2.2.2.2.2.1, (la_try la k (cb_empty s' p' tr)).2.2.2.2.2.2.2.2.2.1, (la_try la k (cb_empty s' p' tr)).2.2.2.2.2.2.2.2.2.2)) ++ (LAc cyI cyZ hw l1 l2 (la.1, la.2.1, la.2.2.1, la.2.2.2))))) H → va_D A ((OBo cyI h b1 b2 hu ht hw wr hm) ++ ((CBc cyI cyZ hu u1 u2 u3 (u.1, u.2.1, u.2.2.1, u.2.2.2.1, u.2.2.2.2.1, u.2.2.2.2.2.1, u.2.2.2.2.2.2.1, u.2.2.2.2.2.2.2.1, u.2.2.2.2.2.2.2.2.1, u.2.2.2.2.2.2.2.2.2.1, u.2.2.2.2.2.2.2.2.2.2)) ++ ((CBc cyI cyZ ht t1 t2 t3 ((la_try la k (cb_empty s' p' tr)).1, (la_try la k (cb_empty s' p' tr)).2.1, (la_try la k (cb_empty s' p' tr)).2.2.1, (la_try la k (cb_empty s' p' tr)).2.2.2.1, (la_try la k (cb_empty s' p' tr)).2.2.2.2.1, (la_try la k (cb_empty s' p' tr)).2.2.2.2.2.1, (la_try la k (cb_empty s' p' tr)).2.2.2.2.2.2.1, (la_try la k (cb_empty s' p' tr)).2.2.2.2.2.2.2.1, (la_try la k (cb_empty s' p' tr)).2.2.2.2.2.2.2.2.1, (la_try la k (cb_empty s' p' tr)).2.2.2.2.2.2.2.2.2.1, (la_try la k (cb_empty s' p' tr)).2.2.2.2.2.2.2.2.2.2)) ++ (LAc cyI cyZ hw l1 l2 (la.1, la.2.1, la.2.2.1, la.2.2.2))))) → va_S A s.heap H locs → lv_has ls 6 [(0, .ref h), (1, .int (nI s')), (2, .int (nI p')), (3, .int (cb_co tr)), (4, .int (nI k))] → W p l e rmX2_costOfTrial s m args below meth c H locs 0 0 Q (F0 m 20 ls []) := by
    intro fu
    induction fu with
    | zero =>
      intro k H locs ls hkl hfu
      exact absurd hfu (Nat.not_lt_zero _)
    | succ fu ih =>
      intro k H locs ls hkl hfu hP hD hS hl
      refine lv_iload hx hb dX2_costOfTrial_20 (lv_at hl 4 rfl) ?_
      refine lv_aload_n hx hb dX2_costOfTrial_22 rfl (lv_at hl 0 rfl) ?_
      refine va_get (D := D) (ci := 2) (v := .ref hw) (C := RX2) (T := TX2) (N := 5) hx hb hts hi_RX2 hown hK hP 0 rfl rfl 4 (by decide) hf_31 (fun _ h9 => h9) rfl dX2_costOfTrial_23 ?_
      refine va_get (D := D) (ci := 1) (v := .int (nI la.2.2.1)) (C := RX1) (T := TX1) (N := 4) hx hb hts hi_RX1 hown hK hP 11 rfl rfl 2 (by decide) hf_151 (fun _ h9 => h9) rfl dX2_costOfTrial_26 ?_
      refine mq_ge (x := k) (y := la.2.2.1) (tgt := 76) (by have : la.2.2.1 ≤ 150 := hla.1; omega) (by have : la.2.2.1 ≤ 150 := hla.1; omega) hx hb dX2_costOfTrial_29 (by decide) (fun c1 => ?_) (fun c1 => ?_)
      · have e : k = la.2.2.1 := by omega
        refine lv_aload_n hx hb dX2_costOfTrial_76 rfl (lv_at hl 0 rfl) ?_
        refine va_get (D := D) (ci := 2) (v := .ref ht) (C := RX2) (T := TX2) (N := 5) hx hb hts hi_RX2 hown hK hP 0 rfl rfl 3 (by decide) hf_25 (fun _ h9 => h9) rfl dX2_costOfTrial_77 ?_
        refine va_get (D := D) (ci := 0) (v := .int ((la_try la k (cb_empty s' p' tr)).2.2.2.2.2.2.2.2.2.2)) (C := RX0) (T := TX0) (N := 11) hx hb hts hi_RX0 hown hK hP 7 rfl rfl 10 (by decide) hf_61 (fun _ h9 => h9) rfl dX2_costOfTrial_80 ?_
        refine lv_iload_n hx hb dX2_costOfTrial_83 rfl (lv_at hl 3 rfl) ?_
        refine lv_isub (x := (la_try la k (cb_empty s' p' tr)).2.2.2.2.2.2.2.2.2.2) (y := cb_co tr) hx hb dX2_costOfTrial_84 ?_
        exact CtI.ret hQ hx hb hr hlk hK hP hD hS dX2_costOfTrial_85 (by rw [e]; rfl) (by rw [e]; rfl)
      · have hlc : la.2.2.1 ≤ 150 := hla.1
        have hsl := la_slot_lt k la
        have htb := cb_bd_try (u := cb_empty s' p' tr) hla (cb_bd_empty hs hp) k
        refine lv_aload_n hx hb dX2_costOfTrial_32 rfl (lv_at hl 0 rfl) ?_
        refine va_get (D := D) (ci := 2) (v := .ref hw) (C := RX2) (T := TX2) (N := 5) hx hb hts hi_RX2 hown hK hP 0 rfl rfl 4 (by decide) hf_31 (fun _ h9 => h9) rfl dX2_costOfTrial_33 ?_
        refine lv_iload hx hb dX2_costOfTrial_36 (lv_at hl 4 rfl) ?_
        refine CtI.callV (n := 1) (q0 := 0) (ci := 1) (wc := LAc cyI cyZ hw l1 l2 (la.1, la.2.1, la.2.2.1, la.2.2.2)) (wr := (OBo cyI h b1 b2 hu ht hw wr hm) ++ ((CBc cyI cyZ hu u1 u2 u3 (u.1, u.2.1, u.2.2.1, u.2.2.2.1, u.2.2.2.2.1, u.2.2.2.2.2.1, u.2.2.2.2.2.2.1, u.2.2.2.2.2.2.2.1, u.2.2.2.2.2.2.2.2.1, u.2.2.2.2.2.2.2.2.2.1, u.2.2.2.2.2.2.2.2.2.2)) ++ (CBc cyI cyZ ht t1 t2 t3 ((la_try la k (cb_empty s' p' tr)).1, (la_try la k (cb_empty s' p' tr)).2.1, (la_try la k (cb_empty s' p' tr)).2.2.1, (la_try la k (cb_empty s' p' tr)).2.2.2.1, (la_try la k (cb_empty s' p' tr)).2.2.2.2.1, (la_try la k (cb_empty s' p' tr)).2.2.2.2.2.1, (la_try la k (cb_empty s' p' tr)).2.2.2.2.2.2.1, (la_try la k (cb_empty s' p' tr)).2.2.2.2.2.2.2.1, (la_try la k (cb_empty s' p' tr)).2.2.2.2.2.2.2.2.1, (la_try la k (cb_empty s' p' tr)).2.2.2.2.2.2.2.2.2.1, (la_try la k (cb_empty s' p' tr)).2.2.2.2.2.2.2.2.2.2)))) (w1 := LAc cyI cyZ hw l1 l2 (la.1, la.2.1, la.2.2.1, la.2.2.2)) (ws' := (OBo cyI h b1 b2 hu ht hw wr hm) ++ ((CBc cyI cyZ hu u1 u2 u3 (u.1, u.2.1, u.2.2.1, u.2.2.2.1, u.2.2.2.2.1, u.2.2.2.2.2.1, u.2.2.2.2.2.2.1, u.2.2.2.2.2.2.2.1, u.2.2.2.2.2.2.2.2.1, u.2.2.2.2.2.2.2.2.2.1, u.2.2.2.2.2.2.2.2.2.2)) ++ ((CBc cyI cyZ ht t1 t2 t3 ((la_try la k (cb_empty s' p' tr)).1, (la_try la k (cb_empty s' p' tr)).2.1, (la_try la k (cb_empty s' p' tr)).2.2.1, (la_try la k (cb_empty s' p' tr)).2.2.2.1, (la_try la k (cb_empty s' p' tr)).2.2.2.2.1, (la_try la k (cb_empty s' p' tr)).2.2.2.2.2.1, (la_try la k (cb_empty s' p' tr)).2.2.2.2.2.2.1, (la_try la k (cb_empty s' p' tr)).2.2.2.2.2.2.2.1, (la_try la k (cb_empty s' p' tr)).2.2.2.2.2.2.2.2.1, (la_try la k (cb_empty s' p' tr)).2.2.2.2.2.2.2.2.2.1, (la_try la k (cb_empty s' p' tr)).2.2.2.2.2.2.2.2.2.2)) ++ (LAc cyI cyZ hw l1 l2 (la.1, la.2.1, la.2.2.1, la.2.2.2))))) (isC := [11, 12, 13]) (isR := [0, 1, 2, 3, 4, 5, 6, 7, 8, 9, 10]) (ps := [0, 1, 2, 3, 4, 5, 6, 7, 8, 9, 10, 11, 12, 13]) (As := [.int (nI k)]) (rest := []) (c_slotOfU l D cyI cyZ cyJ hw l1 l2 la k hla (by omega)) ⟨hx, hb, hown, hts⟩ gX2_costOfTrial_X1_slotOf rfl ⟨rfl, by decide, by decide, by decide +kernel⟩ ⟨Nat.le_of_ble_eq_true rfl, Nat.le_of_ble_eq_true rfl⟩ ⟨rfl, rfl⟩ hml hl.1 hK hP hD hS hA ⟨rfl, rfl, rfl, rfl, rfl, rfl, rfl⟩ rfl ⟨rfl, rfl⟩ rfl rfl (Nat.le_of_ble_eq_true rfl) ⟨Nat.zero_le _, Nat.zero_le _⟩ dX2_costOfTrial_38 (fun H locs hP hD hS => ?_)
        refine lv_istore (lv' := [(5, .int (nI (la_slot k la))), (0, .ref h), (1, .int (nI s')), (2, .int (nI p')), (3, .int (cb_co tr)), (4, .int (nI k))]) hx hb dX2_costOfTrial_41 hl (by decide) rfl (fun ls hl => ?_)
        refine lv_aload_n hx hb dX2_costOfTrial_43 rfl (lv_at hl 1 rfl) ?_
        refine va_get (D := D) (ci := 2) (v := .ref ht) (C := RX2) (T := TX2) (N := 5) hx hb hts hi_RX2 hown hK hP 0 rfl rfl 3 (by decide) hf_25 (fun _ h9 => h9) rfl dX2_costOfTrial_44 ?_
        refine lv_aload_n hx hb dX2_costOfTrial_47 rfl (lv_at hl 1 rfl) ?_
        refine va_get (D := D) (ci := 2) (v := .ref hw) (C := RX2) (T := TX2) (N := 5) hx hb hts hi_RX2 hown hK hP 0 rfl rfl 4 (by decide) hf_31 (fun _ h9 => h9) rfl dX2_costOfTrial_48 ?_
        refine va_get (D := D) (ci := 1) (v := .ref l1) (C := RX1) (T := TX1) (N := 4) hx hb hts hi_RX1 hown hK hP 11 rfl rfl 0 (by decide) hf_157 (fun _ h9 => h9) rfl dX2_costOfTrial_51 ?_
        refine lv_iload hx hb dX2_costOfTrial_54 (lv_at hl 0 rfl) ?_
        refine mq_ld (k := (la_slot k la)) nI la.1 hx hb hK hP 12 0 rfl rfl hsl (Nat.le_of_ble_eq_true rfl) dX2_costOfTrial_56 ?_
        refine lv_aload_n hx hb dX2_costOfTrial_57 rfl (lv_at hl 1 rfl) ?_
        refine va_get (D := D) (ci := 2) (v := .ref hw) (C := RX2) (T := TX2) (N := 5) hx hb hts hi_RX2 hown hK hP 0 rfl rfl 4 (by decide) hf_31 (fun _ h9 => h9) rfl dX2_costOfTrial_58 ?_
        refine va_get (D := D) (ci := 1) (v := .ref l2) (C := RX1) (T := TX1) (N := 4) hx hb hts hi_RX1 hown hK hP 11 rfl rfl 1 (by decide) hf_158 (fun _ h9 => h9) rfl dX2_costOfTrial_61 ?_
        refine lv_iload hx hb dX2_costOfTrial_64 (lv_at hl 0 rfl) ?_
        refine mq_zld (k := (la_slot k la)) la.2.1 hx hb hK hP 13 1 rfl rfl hsl (Nat.le_of_ble_eq_true rfl) dX2_costOfTrial_66 ?_
        refine CtV.callV (n := 2) (q0 := 0) (ci := 0) (wc := CBc cyI cyZ ht t1 t2 t3 ((la_try la k (cb_empty s' p' tr)).1, (la_try la k (cb_empty s' p' tr)).2.1, (la_try la k (cb_empty s' p' tr)).2.2.1, (la_try la k (cb_empty s' p' tr)).2.2.2.1, (la_try la k (cb_empty s' p' tr)).2.2.2.2.1, (la_try la k (cb_empty s' p' tr)).2.2.2.2.2.1, (la_try la k (cb_empty s' p' tr)).2.2.2.2.2.2.1, (la_try la k (cb_empty s' p' tr)).2.2.2.2.2.2.2.1, (la_try la k (cb_empty s' p' tr)).2.2.2.2.2.2.2.2.1, (la_try la k (cb_empty s' p' tr)).2.2.2.2.2.2.2.2.2.1, (la_try la k (cb_empty s' p' tr)).2.2.2.2.2.2.2.2.2.2)) (wr := (OBo cyI h b1 b2 hu ht hw wr hm) ++ ((CBc cyI cyZ hu u1 u2 u3 (u.1, u.2.1, u.2.2.1, u.2.2.2.1, u.2.2.2.2.1, u.2.2.2.2.2.1, u.2.2.2.2.2.2.1, u.2.2.2.2.2.2.2.1, u.2.2.2.2.2.2.2.2.1, u.2.2.2.2.2.2.2.2.2.1, u.2.2.2.2.2.2.2.2.2.2)) ++ (LAc cyI cyZ hw l1 l2 (la.1, la.2.1, la.2.2.1, la.2.2.2)))) (w1 := CBc cyI cyZ ht t1 t2 t3 ((cb_acc (la.1 (la_slot k la)) (la.2.1 (la_slot k la)) (la_try la k (cb_empty s' p' tr))).1, (cb_acc (la.1 (la_slot k la)) (la.2.1 (la_slot k la)) (la_try la k (cb_empty s' p' tr))).2.1, (cb_acc (la.1 (la_slot k la)) (la.2.1 (la_slot k la)) (la_try la k (cb_empty s' p' tr))).2.2.1, (cb_acc (la.1 (la_slot k la)) (la.2.1 (la_slot k la)) (la_try la k (cb_empty s' p' tr))).2.2.2.1, (cb_acc (la.1 (la_slot k la)) (la.2.1 (la_slot k la)) (la_try la k (cb_empty s' p' tr))).2.2.2.2.1, (cb_acc (la.1 (la_slot k la)) (la.2.1 (la_slot k la)) (la_try la k (cb_empty s' p' tr))).2.2.2.2.2.1, (cb_acc (la.1 (la_slot k la)) (la.2.1 (la_slot k la)) (la_try la k (cb_empty s' p' tr))).2.2.2.2.2.2.1, (cb_acc (la.1 (la_slot k la)) (la.2.1 (la_slot k la)) (la_try la k (cb_empty s' p' tr))).2.2.2.2.2.2.2.1, (cb_acc (la.1 (la_slot k la)) (la.2.1 (la_slot k la)) (la_try la k (cb_empty s' p' tr))).2.2.2.2.2.2.2.2.1, (cb_acc (la.1 (la_slot k la)) (la.2.1 (la_slot k la)) (la_try la k (cb_empty s' p' tr))).2.2.2.2.2.2.2.2.2.1, (cb_acc (la.1 (la_slot k la)) (la.2.1 (la_slot k la)) (la_try la k (cb_empty s' p' tr))).2.2.2.2.2.2.2.2.2.2)) (ws' := (OBo cyI h b1 b2 hu ht hw wr hm) ++ ((CBc cyI cyZ hu u1 u2 u3 (u.1, u.2.1, u.2.2.1, u.2.2.2.1, u.2.2.2.2.1, u.2.2.2.2.2.1, u.2.2.2.2.2.2.1, u.2.2.2.2.2.2.2.1, u.2.2.2.2.2.2.2.2.1, u.2.2.2.2.2.2.2.2.2.1, u.2.2.2.2.2.2.2.2.2.2)) ++ ((CBc cyI cyZ ht t1 t2 t3 ((cb_acc (la.1 (la_slot k la)) (la.2.1 (la_slot k la)) (la_try la k (cb_empty s' p' tr))).1, (cb_acc (la.1 (la_slot k la)) (la.2.1 (la_slot k la)) (la_try la k (cb_empty s' p' tr))).2.1, (cb_acc (la.1 (la_slot k la)) (la.2.1 (la_slot k la)) (la_try la k (cb_empty s' p' tr))).2.2.1, (cb_acc (la.1 (la_slot k la)) (la.2.1 (la_slot k la)) (la_try la k (cb_empty s' p' tr))).2.2.2.1, (cb_acc (la.1 (la_slot k la)) (la.2.1 (la_slot k la)) (la_try la k (cb_empty s' p' tr))).2.2.2.2.1, (cb_acc (la.1 (la_slot k la)) (la.2.1 (la_slot k la)) (la_try la k (cb_empty s' p' tr))).2.2.2.2.2.1, (cb_acc (la.1 (la_slot k la)) (la.2.1 (la_slot k la)) (la_try la k (cb_empty s' p' tr))).2.2.2.2.2.2.1, (cb_acc (la.1 (la_slot k la)) (la.2.1 (la_slot k la)) (la_try la k (cb_empty s' p' tr))).2.2.2.2.2.2.2.1, (cb_acc (la.1 (la_slot k la)) (la.2.1 (la_slot k la)) (la_try la k (cb_empty s' p' tr))).2.2.2.2.2.2.2.2.1, (cb_acc (la.1 (la_slot k la)) (la.2.1 (la_slot k la)) (la_try la k (cb_empty s' p' tr))).2.2.2.2.2.2.2.2.2.1, (cb_acc (la.1 (la_slot k la)) (la.2.1 (la_slot k la)) (la_try la k (cb_empty s' p' tr))).2.2.2.2.2.2.2.2.2.2)) ++ (LAc cyI cyZ hw l1 l2 (la.1, la.2.1, la.2.2.1, la.2.2.2))))) (isC := [7, 8, 9, 10]) (isR := [0, 1, 2, 3, 4, 5, 6, 11, 12, 13]) (ps := [0, 1, 2, 3, 4, 5, 6, 10, 11, 12, 13, 7, 8, 9]) (As := [.int (nI (la.1 (la_slot k la))), .int (bI (la.2.1 (la_slot k la)))]) (rest := []) (c_accU l D cyI cyZ cyJ ht t1 t2 t3 (la_try la k (cb_empty s' p' tr)) (la.1 (la_slot k la)) (la.2.1 (la_slot k la)) htb (hla.2.2 _ hsl)) ⟨hx, hb, hown, hts⟩ gX2_costOfTrial_X0_access rfl ⟨rfl, by decide, by decide, by decide +kernel⟩ ⟨Nat.le_of_ble_eq_true rfl, Nat.le_of_ble_eq_true rfl⟩ ⟨rfl, rfl⟩ hml hl.1 hK hP hD hS hA ⟨rfl, rfl, rfl, rfl, rfl, rfl, rfl⟩ rfl ⟨rfl, rfl⟩ rfl rfl (Nat.le_of_ble_eq_true rfl) ⟨Nat.zero_le _, Nat.zero_le _⟩ dX2_costOfTrial_67 (fun H locs hP hD hS => ?_)
        refine lv_iinc (v := nI (k + 1)) (lv' := [(4, .int (nI (k + 1))), (5, .int (nI (la_slot k la))), (0, .ref h), (1, .int (nI s')), (2, .int (nI p')), (3, .int (cb_co tr))]) hx hb dX2_costOfTrial_70 hl (k := 5) rfl (inc1 _) (by decide) rfl (fun ls hl => ?_)
        refine lv_goto (tgt := 20) hx hb dX2_costOfTrial_73 (by decide) ?_
        exact ih (k + 1) _ _ _ (by omega) (by omega) hP hD hS (lv_sub hl [2, 3, 4, 5, 0] rfl)
  exact LP20 _ 0 _ _ _ (Nat.zero_le _) (Nat.lt_succ_self _) hP hD hS (lv_sub hl [2, 3, 4, 1, 0] rfl)
abbrev rmX2_wouldCost : Room := { frames := 4, cells := 0, slots := 0, locals := 93 }
set_option maxRecDepth 100000 in
set_option maxHeartbeats 4000000 in
theorem c_wouldCost (l : Launch) (D : va_G) (cyI cyZ cyJ : ClassId) (h b1 b2 hu u1 u2 u3 ht t1 t2 t3 hw l1 l2 : Nat) (wr hm : Nat → Int32) (u tr : CBu) (la : LAu) (s' p' : Nat) (hla : la_bd la) (hs : s' = 1 ∨ s' = 2 ∨ s' = 4 ∨ s' = 8 ∨ s' = 16) (hp : p' ≤ 8) : CtI l yX2_wouldCost wsX2_wouldCost rmX2_wouldCost D (T3 cyI cyZ cyJ) [.ref h, .int (nI s'), .int (nI p')] ((OBo cyI h b1 b2 hu ht hw wr hm) ++ ((CBc cyI cyZ hu u1 u2 u3 u) ++ ((CBc cyI cyZ ht t1 t2 t3 tr) ++ (LAc cyI cyZ hw l1 l2 la)))) (cb_co (la_trial la s' p' tr) - cb_co tr) ((OBo cyI h b1 b2 hu ht hw wr hm) ++ ((CBc cyI cyZ hu u1 u2 u3 u) ++ ((CBc cyI cyZ ht t1 t2 t3 (la_trial la s' p' tr)) ++ (LAc cyI cyZ hw l1 l2 la)))) := by
  refine CtI.of (cc := cX2_wouldCost) (maxL := 3) (ret := (some .int)) (lv0 := [(0, .ref h), (1, .int (nI s')), (2, .int (nI p'))]) (by decide) rfl (Nat.le_of_ble_eq_true rfl) rfl ?_
  intro p e s m below meth c A ls args Q hx hb hml hr hlk hts hown hK hP hA hD hS hl hQ
  have hP : va_P D vwCl ((OBo cyI h b1 b2 hu ht hw wr hm) ++ ((CBc cyI cyZ hu u1 u2 u3 (u.1, u.2.1, u.2.2.1, u.2.2.2.1, u.2.2.2.2.1, u.2.2.2.2.2.1, u.2.2.2.2.2.2.1, u.2.2.2.2.2.2.2.1, u.2.2.2.2.2.2.2.2.1, u.2.2.2.2.2.2.2.2.2.1, u.2.2.2.2.2.2.2.2.2.2)) ++ ((CBc cyI cyZ ht t1 t2 t3 (tr.1, tr.2.1, tr.2.2.1, tr.2.2.2.1, tr.2.2.2.2.1, tr.2.2.2.2.2.1, tr.2.2.2.2.2.2.1, tr.2.2.2.2.2.2.2.1, tr.2.2.2.2.2.2.2.2.1, tr.2.2.2.2.2.2.2.2.2.1, tr.2.2.2.2.2.2.2.2.2.2)) ++ (LAc cyI cyZ hw l1 l2 (la.1, la.2.1, la.2.2.1, la.2.2.2))))) s.heap := hP
  have hD : va_D A ((OBo cyI h b1 b2 hu ht hw wr hm) ++ ((CBc cyI cyZ hu u1 u2 u3 (u.1, u.2.1, u.2.2.1, u.2.2.2.1, u.2.2.2.2.1, u.2.2.2.2.2.1, u.2.2.2.2.2.2.1, u.2.2.2.2.2.2.2.1, u.2.2.2.2.2.2.2.2.1, u.2.2.2.2.2.2.2.2.2.1, u.2.2.2.2.2.2.2.2.2.2)) ++ ((CBc cyI cyZ ht t1 t2 t3 (tr.1, tr.2.1, tr.2.2.1, tr.2.2.2.1, tr.2.2.2.2.1, tr.2.2.2.2.2.1, tr.2.2.2.2.2.2.1, tr.2.2.2.2.2.2.2.1, tr.2.2.2.2.2.2.2.2.1, tr.2.2.2.2.2.2.2.2.2.1, tr.2.2.2.2.2.2.2.2.2.2)) ++ (LAc cyI cyZ hw l1 l2 (la.1, la.2.1, la.2.2.1, la.2.2.2))))) := hD
  have hown : s.vm.findClass RX2 = some m.cls := hown
  refine lv_iload_n hx hb dX2_wouldCost_0 rfl (lv_at hl 1 rfl) ?_
  refine lv_iload_n hx hb dX2_wouldCost_1 rfl (lv_at hl 2 rfl) ?_
  refine CtV.callS (n := 2) (wc := ([] : va_W)) (wr := (OBo cyI h b1 b2 hu ht hw wr hm) ++ ((CBc cyI cyZ hu u1 u2 u3 (u.1, u.2.1, u.2.2.1, u.2.2.2.1, u.2.2.2.2.1, u.2.2.2.2.2.1, u.2.2.2.2.2.2.1, u.2.2.2.2.2.2.2.1, u.2.2.2.2.2.2.2.2.1, u.2.2.2.2.2.2.2.2.2.1, u.2.2.2.2.2.2.2.2.2.2)) ++ ((CBc cyI cyZ ht t1 t2 t3 (tr.1, tr.2.1, tr.2.2.1, tr.2.2.2.1, tr.2.2.2.2.1, tr.2.2.2.2.2.1, tr.2.2.2.2.2.2.1, tr.2.2.2.2.2.2.2.1, tr.2.2.2.2.2.2.2.2.1, tr.2.2.2.2.2.2.2.2.2.1, tr.2.2.2.2.2.2.2.2.2.2)) ++ (LAc cyI cyZ hw l1 l2 (la.1, la.2.1, la.2.2.1, la.2.2.2))))) (w1 := ([] : va_W)) (ws' := (OBo cyI h b1 b2 hu ht hw wr hm) ++ ((CBc cyI cyZ hu u1 u2 u3 (u.1, u.2.1, u.2.2.1, u.2.2.2.1, u.2.2.2.2.1, u.2.2.2.2.2.1, u.2.2.2.2.2.2.1, u.2.2.2.2.2.2.2.1, u.2.2.2.2.2.2.2.2.1, u.2.2.2.2.2.2.2.2.2.1, u.2.2.2.2.2.2.2.2.2.2)) ++ ((CBc cyI cyZ ht t1 t2 t3 (tr.1, tr.2.1, tr.2.2.1, tr.2.2.2.1, tr.2.2.2.2.1, tr.2.2.2.2.2.1, tr.2.2.2.2.2.2.1, tr.2.2.2.2.2.2.2.1, tr.2.2.2.2.2.2.2.2.1, tr.2.2.2.2.2.2.2.2.2.1, tr.2.2.2.2.2.2.2.2.2.2)) ++ (LAc cyI cyZ hw l1 l2 (la.1, la.2.1, la.2.2.1, la.2.2.2))))) (isC := []) (isR := [0, 1, 2, 3, 4, 5, 6, 7, 8, 9, 10, 11, 12, 13]) (ps := [0, 1, 2, 3, 4, 5, 6, 7, 8, 9, 10, 11, 12, 13]) (As := [.int (nI s'), .int (nI p')]) (rest := []) (c_requireSize l D cyI cyZ cyJ s' p' hs hp) ⟨hx, hb, hown, hts⟩ gX2_wouldCost_X2_requireSize rfl ⟨by decide, by decide, by decide +kernel⟩ ⟨Nat.le_of_ble_eq_true rfl, Nat.le_of_ble_eq_true rfl⟩ ⟨rfl, rfl⟩ hml hl.1 hK hP hD hS hA ⟨rfl, rfl, rfl, rfl, rfl, rfl, rfl⟩ rfl rfl (Nat.le_of_ble_eq_true rfl) ⟨Nat.zero_le _, Nat.zero_le _⟩ dX2_wouldCost_2 (fun H locs hP hD hS => ?_)
  refine lv_aload_n hx hb dX2_wouldCost_5 rfl (lv_at hl 0 rfl) ?_
  refine lv_iload_n hx hb dX2_wouldCost_6 rfl (lv_at hl 1 rfl) ?_
  refine lv_iload_n hx hb dX2_wouldCost_7 rfl (lv_at hl 2 rfl) ?_
  refine CtI.callV (n := 2) (q0 := 0) (ci := 2) (wc := (OBo cyI h b1 b2 hu ht hw wr hm) ++ ((CBc cyI cyZ hu u1 u2 u3 (u.1, u.2.1, u.2.2.1, u.2.2.2.1, u.2.2.2.2.1, u.2.2.2.2.2.1, u.2.2.2.2.2.2.1, u.2.2.2.2.2.2.2.1, u.2.2.2.2.2.2.2.2.1, u.2.2.2.2.2.2.2.2.2.1, u.2.2.2.2.2.2.2.2.2.2)) ++ ((CBc cyI cyZ ht t1 t2 t3 (tr.1, tr.2.1, tr.2.2.1, tr.2.2.2.1, tr.2.2.2.2.1, tr.2.2.2.2.2.1, tr.2.2.2.2.2.2.1, tr.2.2.2.2.2.2.2.1, tr.2.2.2.2.2.2.2.2.1, tr.2.2.2.2.2.2.2.2.2.1, tr.2.2.2.2.2.2.2.2.2.2)) ++ (LAc cyI cyZ hw l1 l2 (la.1, la.2.1, la.2.2.1, la.2.2.2))))) (wr := ([] : va_W)) (w1 := (OBo cyI h b1 b2 hu ht hw wr hm) ++ ((CBc cyI cyZ hu u1 u2 u3 (u.1, u.2.1, u.2.2.1, u.2.2.2.1, u.2.2.2.2.1, u.2.2.2.2.2.1, u.2.2.2.2.2.2.1, u.2.2.2.2.2.2.2.1, u.2.2.2.2.2.2.2.2.1, u.2.2.2.2.2.2.2.2.2.1, u.2.2.2.2.2.2.2.2.2.2)) ++ ((CBc cyI cyZ ht t1 t2 t3 ((la_trial la s' p' tr).1, (la_trial la s' p' tr).2.1, (la_trial la s' p' tr).2.2.1, (la_trial la s' p' tr).2.2.2.1, (la_trial la s' p' tr).2.2.2.2.1, (la_trial la s' p' tr).2.2.2.2.2.1, (la_trial la s' p' tr).2.2.2.2.2.2.1, (la_trial la s' p' tr).2.2.2.2.2.2.2.1, (la_trial la s' p' tr).2.2.2.2.2.2.2.2.1, (la_trial la s' p' tr).2.2.2.2.2.2.2.2.2.1, (la_trial la s' p' tr).2.2.2.2.2.2.2.2.2.2)) ++ (LAc cyI cyZ hw l1 l2 (la.1, la.2.1, la.2.2.1, la.2.2.2))))) (ws' := (OBo cyI h b1 b2 hu ht hw wr hm) ++ ((CBc cyI cyZ hu u1 u2 u3 (u.1, u.2.1, u.2.2.1, u.2.2.2.1, u.2.2.2.2.1, u.2.2.2.2.2.1, u.2.2.2.2.2.2.1, u.2.2.2.2.2.2.2.1, u.2.2.2.2.2.2.2.2.1, u.2.2.2.2.2.2.2.2.2.1, u.2.2.2.2.2.2.2.2.2.2)) ++ ((CBc cyI cyZ ht t1 t2 t3 ((la_trial la s' p' tr).1, (la_trial la s' p' tr).2.1, (la_trial la s' p' tr).2.2.1, (la_trial la s' p' tr).2.2.2.1, (la_trial la s' p' tr).2.2.2.2.1, (la_trial la s' p' tr).2.2.2.2.2.1, (la_trial la s' p' tr).2.2.2.2.2.2.1, (la_trial la s' p' tr).2.2.2.2.2.2.2.1, (la_trial la s' p' tr).2.2.2.2.2.2.2.2.1, (la_trial la s' p' tr).2.2.2.2.2.2.2.2.2.1, (la_trial la s' p' tr).2.2.2.2.2.2.2.2.2.2)) ++ (LAc cyI cyZ hw l1 l2 (la.1, la.2.1, la.2.2.1, la.2.2.2))))) (isC := [0, 1, 2, 3, 4, 5, 6, 7, 8, 9, 10, 11, 12, 13]) (isR := []) (ps := [0, 1, 2, 3, 4, 5, 6, 7, 8, 9, 10, 11, 12, 13]) (As := [.int (nI s'), .int (nI p')]) (rest := []) (c_costOfTrial l D cyI cyZ cyJ h b1 b2 hu u1 u2 u3 ht t1 t2 t3 hw l1 l2 wr hm u tr la s' p' hla hs hp) ⟨hx, hb, hown, hts⟩ gX2_wouldCost_X2_costOfTrial rfl ⟨rfl, by decide, by decide, by decide +kernel⟩ ⟨Nat.le_of_ble_eq_true rfl, Nat.le_of_ble_eq_true rfl⟩ ⟨rfl, rfl⟩ hml hl.1 hK hP hD hS hA ⟨rfl, rfl, rfl, rfl, rfl, rfl, rfl⟩ rfl ⟨rfl, rfl⟩ rfl rfl (Nat.le_of_ble_eq_true rfl) ⟨Nat.zero_le _, Nat.zero_le _⟩ dX2_wouldCost_8 (fun H locs hP hD hS => ?_)
  exact CtI.ret hQ hx hb hr hlk hK hP hD hS dX2_wouldCost_11 rfl rfl
abbrev rmX2_bestPlaces : Room := { frames := 4, cells := 0, slots := 0, locals := 93 }
set_option maxRecDepth 100000 in
set_option maxHeartbeats 4000000 in
theorem c_bestPlaces (l : Launch) (D : va_G) (cyI cyZ cyJ : ClassId) (h b1 b2 hu u1 u2 u3 ht t1 t2 t3 hw l1 l2 : Nat) (wr hm : Nat → Int32) (u tr : CBu) (la : LAu) (hbd : cb_bd u) (hla : la_bd la) : CtI l yX2_bestPlaces wsX2_bestPlaces rmX2_bestPlaces D (T3 cyI cyZ cyJ) [.ref h] ((OBo cyI h b1 b2 hu ht hw wr hm) ++ ((CBc cyI cyZ hu u1 u2 u3 u) ++ ((CBc cyI cyZ ht t1 t2 t3 tr) ++ (LAc cyI cyZ hw l1 l2 la)))) (nI (la_best la u.1 8 tr).1) ((OBo cyI h b1 b2 hu ht hw wr hm) ++ ((CBc cyI cyZ hu u1 u2 u3 u) ++ ((CBc cyI cyZ ht t1 t2 t3 ((la_best la u.1 8 tr).2.2)) ++ (LAc cyI cyZ hw l1 l2 la)))) := by
  refine CtI.of (cc := cX2_bestPlaces) (maxL := 5) (ret := (some .int)) (lv0 := [(0, .ref h)]) (by decide) rfl (Nat.le_of_ble_eq_true rfl) rfl ?_
  intro p e s m below meth c A ls args Q hx hb hml hr hlk hts hown hK hP hA hD hS hl hQ
  have hP : va_P D vwCl ((OBo cyI h b1 b2 hu ht hw wr hm) ++ ((CBc cyI cyZ hu u1 u2 u3 (u.1, u.2.1, u.2.2.1, u.2.2.2.1, u.2.2.2.2.1, u.2.2.2.2.2.1, u.2.2.2.2.2.2.1, u.2.2.2.2.2.2.2.1, u.2.2.2.2.2.2.2.2.1, u.2.2.2.2.2.2.2.2.2.1, u.2.2.2.2.2.2.2.2.2.2)) ++ ((CBc cyI cyZ ht t1 t2 t3 (tr.1, tr.2.1, tr.2.2.1, tr.2.2.2.1, tr.2.2.2.2.1, tr.2.2.2.2.2.1, tr.2.2.2.2.2.2.1, tr.2.2.2.2.2.2.2.1, tr.2.2.2.2.2.2.2.2.1, tr.2.2.2.2.2.2.2.2.2.1, tr.2.2.2.2.2.2.2.2.2.2)) ++ (LAc cyI cyZ hw l1 l2 (la.1, la.2.1, la.2.2.1, la.2.2.2))))) s.heap := hP
  have hD : va_D A ((OBo cyI h b1 b2 hu ht hw wr hm) ++ ((CBc cyI cyZ hu u1 u2 u3 (u.1, u.2.1, u.2.2.1, u.2.2.2.1, u.2.2.2.2.1, u.2.2.2.2.2.1, u.2.2.2.2.2.2.1, u.2.2.2.2.2.2.2.1, u.2.2.2.2.2.2.2.2.1, u.2.2.2.2.2.2.2.2.2.1, u.2.2.2.2.2.2.2.2.2.2)) ++ ((CBc cyI cyZ ht t1 t2 t3 (tr.1, tr.2.1, tr.2.2.1, tr.2.2.2.1, tr.2.2.2.2.1, tr.2.2.2.2.2.1, tr.2.2.2.2.2.2.1, tr.2.2.2.2.2.2.2.1, tr.2.2.2.2.2.2.2.2.1, tr.2.2.2.2.2.2.2.2.2.1, tr.2.2.2.2.2.2.2.2.2.2)) ++ (LAc cyI cyZ hw l1 l2 (la.1, la.2.1, la.2.2.1, la.2.2.2))))) := hD
  have hown : s.vm.findClass RX2 = some m.cls := hown
  have hi_RX0 : ∀ w ∈ wsX00, w ∈ wsX2_bestPlaces := by decide +kernel
  have hi_RX2 : ∀ w ∈ wsX20, w ∈ wsX2_bestPlaces := by decide +kernel
  have hf_21 := hts (.fieldLink RX2 21 "OutcastBench" "actual" "LOutcastBench$CacheAndBench;") (by decide +kernel)
  have hf_98 := hts (.fieldLink RX2 98 "OutcastBench$CacheAndBench" "setCount" "I") (by decide +kernel)
  have hsc : u.1 = 1 ∨ u.1 = 2 ∨ u.1 = 4 ∨ u.1 = 8 ∨ u.1 = 16 := hbd.1
  refine lv_iconst (v := nI 0) hx hb dX2_bestPlaces_0 (by decide) ?_
  refine lv_istore_n (lv' := [(1, .int (nI 0)), (0, .ref h)]) hx hb dX2_bestPlaces_1 rfl hl (by decide) rfl (fun ls hl => ?_)
  refine lv_aload_n hx hb dX2_bestPlaces_2 rfl (lv_at hl 1 rfl) ?_
  refine lv_aload_n hx hb dX2_bestPlaces_3 rfl (lv_at hl 1 rfl) ?_
  refine va_get (D := D) (ci := 2) (v := .ref hu) (C := RX2) (T := TX2) (N := 5) hx hb hts hi_RX2 hown hK hP 0 rfl rfl 2 (by decide) hf_21 (fun _ h9 => h9) rfl dX2_bestPlaces_4 ?_
  refine va_get (D := D) (ci := 0) (v := .int (nI u.1)) (C := RX0) (T := TX0) (N := 11) hx hb hts hi_RX0 hown hK hP 3 rfl rfl 0 (by decide) hf_98 (fun _ h9 => h9) rfl dX2_bestPlaces_7 ?_
  refine lv_iconst (v := nI 0) hx hb dX2_bestPlaces_10 (by decide) ?_
  refine CtI.callV (n := 2) (q0 := 0) (ci := 2) (wc := (OBo cyI h b1 b2 hu ht hw wr hm) ++ ((CBc cyI cyZ hu u1 u2 u3 (u.1, u.2.1, u.2.2.1, u.2.2.2.1, u.2.2.2.2.1, u.2.2.2.2.2.1, u.2.2.2.2.2.2.1, u.2.2.2.2.2.2.2.1, u.2.2.2.2.2.2.2.2.1, u.2.2.2.2.2.2.2.2.2.1, u.2.2.2.2.2.2.2.2.2.2)) ++ ((CBc cyI cyZ ht t1 t2 t3 (tr.1, tr.2.1, tr.2.2.1, tr.2.2.2.1, tr.2.2.2.2.1, tr.2.2.2.2.2.1, tr.2.2.2.2.2.2.1, tr.2.2.2.2.2.2.2.1, tr.2.2.2.2.2.2.2.2.1, tr.2.2.2.2.2.2.2.2.2.1, tr.2.2.2.2.2.2.2.2.2.2)) ++ (LAc cyI cyZ hw l1 l2 (la.1, la.2.1, la.2.2.1, la.2.2.2))))) (wr := ([] : va_W)) (w1 := (OBo cyI h b1 b2 hu ht hw wr hm) ++ ((CBc cyI cyZ hu u1 u2 u3 (u.1, u.2.1, u.2.2.1, u.2.2.2.1, u.2.2.2.2.1, u.2.2.2.2.2.1, u.2.2.2.2.2.2.1, u.2.2.2.2.2.2.2.1, u.2.2.2.2.2.2.2.2.1, u.2.2.2.2.2.2.2.2.2.1, u.2.2.2.2.2.2.2.2.2.2)) ++ ((CBc cyI cyZ ht t1 t2 t3 ((la_trial la u.1 0 tr).1, (la_trial la u.1 0 tr).2.1, (la_trial la u.1 0 tr).2.2.1, (la_trial la u.1 0 tr).2.2.2.1, (la_trial la u.1 0 tr).2.2.2.2.1, (la_trial la u.1 0 tr).2.2.2.2.2.1, (la_trial la u.1 0 tr).2.2.2.2.2.2.1, (la_trial la u.1 0 tr).2.2.2.2.2.2.2.1, (la_trial la u.1 0 tr).2.2.2.2.2.2.2.2.1, (la_trial la u.1 0 tr).2.2.2.2.2.2.2.2.2.1, (la_trial la u.1 0 tr).2.2.2.2.2.2.2.2.2.2)) ++ (LAc cyI cyZ hw l1 l2 (la.1, la.2.1, la.2.2.1, la.2.2.2))))) (ws' := (OBo cyI h b1 b2 hu ht hw wr hm) ++ ((CBc cyI cyZ hu u1 u2 u3 (u.1, u.2.1, u.2.2.1, u.2.2.2.1, u.2.2.2.2.1, u.2.2.2.2.2.1, u.2.2.2.2.2.2.1, u.2.2.2.2.2.2.2.1, u.2.2.2.2.2.2.2.2.1, u.2.2.2.2.2.2.2.2.2.1, u.2.2.2.2.2.2.2.2.2.2)) ++ ((CBc cyI cyZ ht t1 t2 t3 ((la_trial la u.1 0 tr).1, (la_trial la u.1 0 tr).2.1, (la_trial la u.1 0 tr).2.2.1, (la_trial la u.1 0 tr).2.2.2.1, (la_trial la u.1 0 tr).2.2.2.2.1, (la_trial la u.1 0 tr).2.2.2.2.2.1, (la_trial la u.1 0 tr).2.2.2.2.2.2.1, (la_trial la u.1 0 tr).2.2.2.2.2.2.2.1, (la_trial la u.1 0 tr).2.2.2.2.2.2.2.2.1, (la_trial la u.1 0 tr).2.2.2.2.2.2.2.2.2.1, (la_trial la u.1 0 tr).2.2.2.2.2.2.2.2.2.2)) ++ (LAc cyI cyZ hw l1 l2 (la.1, la.2.1, la.2.2.1, la.2.2.2))))) (isC := [0, 1, 2, 3, 4, 5, 6, 7, 8, 9, 10, 11, 12, 13]) (isR := []) (ps := [0, 1, 2, 3, 4, 5, 6, 7, 8, 9, 10, 11, 12, 13]) (As := [.int (nI u.1), .int (nI 0)]) (rest := []) (c_costOfTrial l D cyI cyZ cyJ h b1 b2 hu u1 u2 u3 ht t1 t2 t3 hw l1 l2 wr hm u tr la u.1 0 hla hsc (Nat.zero_le _)) ⟨hx, hb, hown, hts⟩ gX2_bestPlaces_X2_costOfTrial rfl ⟨rfl, by decide, by decide, by decide +kernel⟩ ⟨Nat.le_of_ble_eq_true rfl, Nat.le_of_ble_eq_true rfl⟩ ⟨rfl, rfl⟩ hml hl.1 hK hP hD hS hA ⟨rfl, rfl, rfl, rfl, rfl, rfl, rfl⟩ rfl ⟨rfl, rfl⟩ rfl rfl (Nat.le_of_ble_eq_true rfl) ⟨Nat.zero_le _, Nat.zero_le _⟩ dX2_bestPlaces_11 (fun H locs hP hD hS => ?_)
  refine lv_istore_n (lv' := [(2, .int (cb_co (la_trial la u.1 0 tr) - cb_co tr)), (1, .int (nI 0)), (0, .ref h)]) hx hb dX2_bestPlaces_14 rfl hl (by decide) rfl (fun ls hl => ?_)
  refine lv_iconst (v := nI 1) hx hb dX2_bestPlaces_15 (by decide) ?_
  refine lv_istore_n (lv' := [(3, .int (nI 1)), (2, .int (cb_co (la_trial la u.1 0 tr) - cb_co tr)), (1, .int (nI 0)), (0, .ref h)]) hx hb dX2_bestPlaces_16 rfl hl (by decide) rfl (fun ls hl => ?_)
  have LP17 : ∀ (fu : Nat) (k : Nat) (b : Nat) (y : Int32) (t : CBu) (H : Heap) (locs : List Loc) (ls : Array Slot), (k ≤ 8) → (la_best la u.1 k tr = (b, y, t)) → 8 - k < fu → va_P D vwCl ((OBo cyI h b1 b2 hu ht hw wr hm) ++ ((CBc cyI cyZ hu u1 u2 u3 (u.1, u.2.1, u.2.2.1, u.2.2.2.1, u.2.2.2.2.1, u.2.2.2.2.2.1, u.2.2.2.2.2.2.1, u.2.2.2.2.2.2.2.1, u.2.2.2.2.2.2.2.2.1, u.2.2.2.2.2.2.2.2.2.1, u.2.2.2.2.2.2.2.2.2.2)) ++ ((CBc cyI cyZ ht t1 t2 t3 (t.1, t.2.1, t.2.2.1, t.2.2.2.1, t.2.2.2.2.1, t.2.2.2.2.2.1, t.2.2.2.2.2.2.1, t.2.2.2.2.2.2.2.1, t.2.2.2.2.2.2.2.2.1, t.2.2.2.2.2.2.2.2.2.1, t.2.2.2.2.2.2.2.2.2.2)) ++ (LAc cyI cyZ hw l1 l2 (la.1, la.2.1, la.2.2.1, la.2.2.2))))) H → va_D A ((OBo cyI h b1 b2 hu ht hw wr hm) ++ ((CBc cyI cyZ hu u1 u2 u3 (u.1, u.2.1, u.2.2.1, u.2.2.2.1, u.2.2.2.2.1, u.2.2.2.2.2.1, u.2.2.2.2.2.2.1, u.2.2.2.2.2.2.2.1, u.2.2.2.2.2.2.2.2.1, u.2.2.2.2.2.2.2.2.2.1, u.2.2.2.2.2.2.2.2.2.2)) ++ ((CBc cyI cyZ ht t1 t2 t3 (t.1, t.2.1, t.2.2.1, t.2.2.2.1, t.2.2.2.2.1, t.2.2.2.2.2.1, t.2.2.2.2.2.2.1, t.2.2.2.2.2.2.2.1, t.2.2.2.2.2.2.2.2.1, t.2.2.2.2.2.2.2.2.2.1, t.2.2.2.2.2.2.2.2.2.2)) ++ (LAc cyI cyZ hw l1 l2 (la.1, la.2.1, la.2.2.1, la.2.2.2))))) → va_S A s.heap H locs → lv_has ls 5 [(0, .ref h), (1, .int (nI b)), (2, .int y), (3, .int (nI (k + 1)))] → W p l e rmX2_bestPlaces s m args below meth c H locs 0 0 Q (F0 m 17 ls []) := by
    intro fu
    induction fu with
    | zero =>
      intro k b y t H locs ls hk8 hbe hfu
      exact absurd hfu (Nat.not_lt_zero _)
    | succ fu ih =>
      intro k b y t H locs ls hk8 hbe hfu hP hD hS hl
      refine lv_iload_n hx hb dX2_bestPlaces_17 rfl (lv_at hl 3 rfl) ?_
      refine lv_bipush (v := nI 8) hx hb dX2_bestPlaces_18 (by decide) ?_
      refine mq_gt (x := (k + 1)) (y := 8) (tgt := 54) (by omega) (by omega) hx hb dX2_bestPlaces_20 (by decide) (fun c1 => ?_) (fun c1 => ?_)
      · have e : k = 8 := by omega
        subst e
        refine lv_iload_n hx hb dX2_bestPlaces_54 rfl (lv_at hl 1 rfl) ?_
        exact CtI.ret hQ hx hb hr hlk hK hP hD hS dX2_bestPlaces_55 (by rw [hbe]) (by rw [hbe])
      · refine lv_aload_n hx hb dX2_bestPlaces_23 rfl (lv_at hl 0 rfl) ?_
        refine lv_aload_n hx hb dX2_bestPlaces_24 rfl (lv_at hl 0 rfl) ?_
        refine va_get (D := D) (ci := 2) (v := .ref hu) (C := RX2) (T := TX2) (N := 5) hx hb hts hi_RX2 hown hK hP 0 rfl rfl 2 (by decide) hf_21 (fun _ h9 => h9) rfl dX2_bestPlaces_25 ?_
        refine va_get (D := D) (ci := 0) (v := .int (nI u.1)) (C := RX0) (T := TX0) (N := 11) hx hb hts hi_RX0 hown hK hP 3 rfl rfl 0 (by decide) hf_98 (fun _ h9 => h9) rfl dX2_bestPlaces_28 ?_
        refine lv_iload_n hx hb dX2_bestPlaces_31 rfl (lv_at hl 3 rfl) ?_
        refine CtI.callV (n := 2) (q0 := 0) (ci := 2) (wc := (OBo cyI h b1 b2 hu ht hw wr hm) ++ ((CBc cyI cyZ hu u1 u2 u3 (u.1, u.2.1, u.2.2.1, u.2.2.2.1, u.2.2.2.2.1, u.2.2.2.2.2.1, u.2.2.2.2.2.2.1, u.2.2.2.2.2.2.2.1, u.2.2.2.2.2.2.2.2.1, u.2.2.2.2.2.2.2.2.2.1, u.2.2.2.2.2.2.2.2.2.2)) ++ ((CBc cyI cyZ ht t1 t2 t3 (t.1, t.2.1, t.2.2.1, t.2.2.2.1, t.2.2.2.2.1, t.2.2.2.2.2.1, t.2.2.2.2.2.2.1, t.2.2.2.2.2.2.2.1, t.2.2.2.2.2.2.2.2.1, t.2.2.2.2.2.2.2.2.2.1, t.2.2.2.2.2.2.2.2.2.2)) ++ (LAc cyI cyZ hw l1 l2 (la.1, la.2.1, la.2.2.1, la.2.2.2))))) (wr := ([] : va_W)) (w1 := (OBo cyI h b1 b2 hu ht hw wr hm) ++ ((CBc cyI cyZ hu u1 u2 u3 (u.1, u.2.1, u.2.2.1, u.2.2.2.1, u.2.2.2.2.1, u.2.2.2.2.2.1, u.2.2.2.2.2.2.1, u.2.2.2.2.2.2.2.1, u.2.2.2.2.2.2.2.2.1, u.2.2.2.2.2.2.2.2.2.1, u.2.2.2.2.2.2.2.2.2.2)) ++ ((CBc cyI cyZ ht t1 t2 t3 ((la_trial la u.1 (k + 1) t).1, (la_trial la u.1 (k + 1) t).2.1, (la_trial la u.1 (k + 1) t).2.2.1, (la_trial la u.1 (k + 1) t).2.2.2.1, (la_trial la u.1 (k + 1) t).2.2.2.2.1, (la_trial la u.1 (k + 1) t).2.2.2.2.2.1, (la_trial la u.1 (k + 1) t).2.2.2.2.2.2.1, (la_trial la u.1 (k + 1) t).2.2.2.2.2.2.2.1, (la_trial la u.1 (k + 1) t).2.2.2.2.2.2.2.2.1, (la_trial la u.1 (k + 1) t).2.2.2.2.2.2.2.2.2.1, (la_trial la u.1 (k + 1) t).2.2.2.2.2.2.2.2.2.2)) ++ (LAc cyI cyZ hw l1 l2 (la.1, la.2.1, la.2.2.1, la.2.2.2))))) (ws' := (OBo cyI h b1 b2 hu ht hw wr hm) ++ ((CBc cyI cyZ hu u1 u2 u3 (u.1, u.2.1, u.2.2.1, u.2.2.2.1, u.2.2.2.2.1, u.2.2.2.2.2.1, u.2.2.2.2.2.2.1, u.2.2.2.2.2.2.2.1, u.2.2.2.2.2.2.2.2.1, u.2.2.2.2.2.2.2.2.2.1, u.2.2.2.2.2.2.2.2.2.2)) ++ ((CBc cyI cyZ ht t1 t2 t3 ((la_trial la u.1 (k + 1) t).1, (la_trial la u.1 (k + 1) t).2.1, (la_trial la u.1 (k + 1) t).2.2.1, (la_trial la u.1 (k + 1) t).2.2.2.1, (la_trial la u.1 (k + 1) t).2.2.2.2.1, (la_trial la u.1 (k + 1) t).2.2.2.2.2.1, (la_trial la u.1 (k + 1) t).2.2.2.2.2.2.1, (la_trial la u.1 (k + 1) t).2.2.2.2.2.2.2.1, (la_trial la u.1 (k + 1) t).2.2.2.2.2.2.2.2.1, (la_trial la u.1 (k + 1) t).2.2.2.2.2.2.2.2.2.1, (la_trial la u.1 (k + 1) t).2.2.2.2.2.2.2.2.2.2)) ++ (LAc cyI cyZ hw l1 l2 (la.1, la.2.1, la.2.2.1, la.2.2.2))))) (isC := [0, 1, 2, 3, 4, 5, 6, 7, 8, 9, 10, 11, 12, 13]) (isR := []) (ps := [0, 1, 2, 3, 4, 5, 6, 7, 8, 9, 10, 11, 12, 13]) (As := [.int (nI u.1), .int (nI (k + 1))]) (rest := []) (c_costOfTrial l D cyI cyZ cyJ h b1 b2 hu u1 u2 u3 ht t1 t2 t3 hw l1 l2 wr hm u t la u.1 (k + 1) hla hsc (by omega)) ⟨hx, hb, hown, hts⟩ gX2_bestPlaces_X2_costOfTrial rfl ⟨rfl, by decide, by decide, by decide +kernel⟩ ⟨Nat.le_of_ble_eq_true rfl, Nat.le_of_ble_eq_true rfl⟩ ⟨rfl, rfl⟩ hml hl.1 hK hP hD hS hA ⟨rfl, rfl, rfl, rfl, rfl, rfl, rfl⟩ rfl ⟨rfl, rfl⟩ rfl rfl (Nat.le_of_ble_eq_true rfl) ⟨Nat.zero_le _, Nat.zero_le _⟩ dX2_bestPlaces_32 (fun H locs hP hD hS => ?_)
        refine lv_istore (lv' := [(4, .int (cb_co (la_trial la u.1 (k + 1) t) - cb_co t)), (0, .ref h), (1, .int (nI b)), (2, .int y), (3, .int (nI (k + 1)))]) hx hb dX2_bestPlaces_35 hl (by decide) rfl (fun ls hl => ?_)
        refine lv_iload hx hb dX2_bestPlaces_37 (lv_at hl 0 rfl) ?_
        refine lv_iload_n hx hb dX2_bestPlaces_39 rfl (lv_at hl 3 rfl) ?_
        refine lv_icmp_ge (x := cb_co (la_trial la u.1 (k + 1) t) - cb_co t) (y := y) (tgt := 48) hx hb dX2_bestPlaces_40 (by decide) (fun c2 => ?_) (fun c2 => ?_)
        · refine lv_iinc (v := nI (k + 1 + 1)) (lv' := [(3, .int (nI (k + 1 + 1))), (4, .int (cb_co (la_trial la u.1 (k + 1) t) - cb_co t)), (0, .ref h), (1, .int (nI b)), (2, .int y)]) hx hb dX2_bestPlaces_48 hl (k := 4) rfl (inc1 _) (by decide) rfl (fun ls hl => ?_)
          refine lv_goto (tgt := 17) hx hb dX2_bestPlaces_51 (by decide) ?_
          exact ih (k + 1) b y (la_trial la u.1 (k + 1) t) _ _ _ (by omega) (by unfold la_best; rw [hbe]; dsimp only; rw [if_neg (Int32.not_lt.mpr c2)]) (by omega) hP hD hS (lv_sub hl [2, 3, 4, 0] rfl)
        · refine lv_iload_n hx hb dX2_bestPlaces_43 rfl (lv_at hl 4 rfl) ?_
          refine lv_istore_n (lv' := [(1, .int (nI (k + 1))), (4, .int (cb_co (la_trial la u.1 (k + 1) t) - cb_co t)), (0, .ref h), (2, .int y), (3, .int (nI (k + 1)))]) hx hb dX2_bestPlaces_44 rfl hl (by decide) rfl (fun ls hl => ?_)
          refine lv_iload hx hb dX2_bestPlaces_45 (lv_at hl 1 rfl) ?_
          refine lv_istore_n (lv' := [(2, .int (cb_co (la_trial la u.1 (k + 1) t) - cb_co t)), (1, .int (nI (k + 1))), (4, .int (cb_co (la_trial la u.1 (k + 1) t) - cb_co t)), (0, .ref h), (3, .int (nI (k + 1)))]) hx hb dX2_bestPlaces_47 rfl hl (by decide) rfl (fun ls hl => ?_)
          refine lv_iinc (v := nI (k + 1 + 1)) (lv' := [(3, .int (nI (k + 1 + 1))), (2, .int (cb_co (la_trial la u.1 (k + 1) t) - cb_co t)), (1, .int (nI (k + 1))), (4, .int (cb_co (la_trial la u.1 (k + 1) t) - cb_co t)), (0, .ref h)]) hx hb dX2_bestPlaces_48 hl (k := 4) rfl (inc1 _) (by decide) rfl (fun ls hl => ?_)
          refine lv_goto (tgt := 17) hx hb dX2_bestPlaces_51 (by decide) ?_
          exact ih (k + 1) (k + 1) (cb_co (la_trial la u.1 (k + 1) t) - cb_co t) (la_trial la u.1 (k + 1) t) _ _ _ (by omega) (by unfold la_best; rw [hbe]; dsimp only; rw [if_pos (Int32.not_le.mp c2)]) (by omega) hP hD hS (lv_sub hl [4, 2, 1, 0] rfl)
  exact LP17 _ 0 0 (cb_co (la_trial la u.1 0 tr) - cb_co tr) (la_trial la u.1 0 tr) _ _ _ (Nat.zero_le _) rfl (Nat.lt_succ_self _) hP hD hS (lv_sub hl [3, 2, 1, 0] rfl)
end
section
abbrev rmX0_init : Room := { frames := 2, cells := 3, slots := 280, locals := 46 }
set_option maxRecDepth 100000 in
set_option maxHeartbeats 4000000 in
theorem i_cb (l : Launch) (D : va_G) (cyI cyZ cyJ : ClassId) (h : Nat) (s' p' : Nat)  : CtN (S := Nat × Nat × Nat) l yX0_init wsX0_init rmX0_init D (T3 cyI cyZ cyJ) [.ref h, .int (nI s'), .int (nI p')] [(h, .inr (0, [.int 0, .int 0, .null, .null, .int 0, .null, .int 0, .int 0, .int 0, .int 0, .int 0]))] (fun u => CBc cyI cyZ h u.1 u.2.1 u.2.2 (s', p', fun _ => none, fun _ => 0, 0, fun _ => false, 0, 0, 0, 0, 0)) noN 3 280 := by
  refine CtN.of (cc := cX0_init) (maxL := 3) (ret := none) (lv0 := [(0, .ref h), (1, .int (nI s')), (2, .int (nI p'))]) (by decide) rfl (Nat.le_of_ble_eq_true rfl) rfl ?_
  intro p e s m below meth c A ls args Q hx hb hml hr hlk hin hNs hts hown hK hP hA hD hS hl hQ
  have hin : meth.name = "<init>" := hin
  have hown : s.vm.findClass RX0 = some m.cls := hown
  have hi_RX0 : ∀ w ∈ wsX00, w ∈ wsX0_init := by decide +kernel
  have hf_9 := hts (.fieldLink RX0 9 "OutcastBench$CacheAndBench" "lines" "[I") (by decide +kernel)
  have hf_15 := hts (.fieldLink RX0 15 "OutcastBench$CacheAndBench" "bench" "[I") (by decide +kernel)
  have hf_18 := hts (.fieldLink RX0 18 "OutcastBench$CacheAndBench" "dirtyLines" "[Z") (by decide +kernel)
  refine lv_aload_n hx hb dX0_init_0 rfl (lv_at hl 0 rfl) ?_
  refine W.objInit hx hb hown (hts (.methodLink RX0 3 objectInit) (by decide +kernel)) (hts (.instanceMethod objectInit) (by decide +kernel)) (hts (.code objectInit ⟨#[0xb1]⟩ 1 none) (by decide +kernel)) rfl (by rw [hml]; exact hl.1) rfl dX0_init_1 (Nat.le_of_ble_eq_true rfl) (Nat.le_of_ble_eq_true rfl) ?_
  refine W.eq (g2 := F0 m 4 ls []) rfl ?_
  refine lv_aload_n hx hb dX0_init_4 rfl (lv_at hl 0 rfl) ?_
  refine lv_bipush (v := nI 16) hx hb dX0_init_5 (by decide) ?_
  refine mq_newa (atype := .int) (ty := .int) (a0 := (16, .inl (fun _ => 0))) (N' := 16) hx hb (hts (.arrayClass .int) (by decide +kernel)) rfl hK hP hD hS hA 0 rfl (fun _ h9 => h9) (fun _ => rfl) (by decide) (nI_clamp (Nat.le_of_ble_eq_true rfl)) (Nat.le_of_ble_eq_true rfl) (Nat.le_of_ble_eq_true rfl) (Nat.le_of_ble_eq_true rfl) dX0_init_7 (fun q1 H hP hD hS => ?_)
  have hP : va_P D vwCl ([(h, .inr (0, [.int 0, .int 0, .null, .null, .int 0, .null, .int 0, .int 0, .int 0, .int 0, .int 0])), (q1, .inl (cyI, 16, .inl (fun _ => 0)))]) H := hP
  have hD : va_D A ([(h, .inr (0, [.int 0, .int 0, .null, .null, .int 0, .null, .int 0, .int 0, .int 0, .int 0, .int 0])), (q1, .inl (cyI, 16, .inl (fun _ => 0)))]) := hD
  refine mq_putF (D := D) (ci := 0) (v := .ref q1) (ty := .array .int) (C := RX0) (T := TX0) (N := 11) (ws' := [(h, .inr (0, [.int 0, .int 0, .ref q1, .null, .int 0, .null, .int 0, .int 0, .int 0, .int 0, .int 0])), (q1, .inl (cyI, 16, .inl (fun _ => 0)))]) hx hb hts hi_RX0 tyX0 tyX0_ok nmX0 hown hK hP hD hS 0 rfl rfl 2 (by decide) hf_9 (fun _ h9 => h9) rfl hin rfl (by decide +kernel) rfl rfl (Nat.le_of_ble_eq_true rfl) dX0_init_9 rfl (fun H locs hP hD hS => ?_)
  refine lv_aload_n hx hb dX0_init_12 rfl (lv_at hl 0 rfl) ?_
  refine lv_bipush (v := nI 8) hx hb dX0_init_13 (by decide) ?_
  refine mq_newa (atype := .int) (ty := .int) (a0 := (8, .inl (fun _ => 0))) (N' := 8) hx hb (hts (.arrayClass .int) (by decide +kernel)) rfl hK hP hD hS hA 0 rfl (fun _ h9 => h9) (fun _ => rfl) (by decide) (nI_clamp (Nat.le_of_ble_eq_true rfl)) (Nat.le_of_ble_eq_true rfl) (Nat.le_of_ble_eq_true rfl) (Nat.le_of_ble_eq_true rfl) dX0_init_15 (fun q2 H hP hD hS => ?_)
  have hP : va_P D vwCl ([(h, .inr (0, [.int 0, .int 0, .ref q1, .null, .int 0, .null, .int 0, .int 0, .int 0, .int 0, .int 0])), (q1, .inl (cyI, 16, .inl (fun _ => 0))), (q2, .inl (cyI, 8, .inl (fun _ => 0)))]) H := hP
  have hD : va_D A ([(h, .inr (0, [.int 0, .int 0, .ref q1, .null, .int 0, .null, .int 0, .int 0, .int 0, .int 0, .int 0])), (q1, .inl (cyI, 16, .inl (fun _ => 0))), (q2, .inl (cyI, 8, .inl (fun _ => 0)))]) := hD
  refine mq_putF (D := D) (ci := 0) (v := .ref q2) (ty := .array .int) (C := RX0) (T := TX0) (N := 11) (ws' := [(h, .inr (0, [.int 0, .int 0, .ref q1, .ref q2, .int 0, .null, .int 0, .int 0, .int 0, .int 0, .int 0])), (q1, .inl (cyI, 16, .inl (fun _ => 0))), (q2, .inl (cyI, 8, .inl (fun _ => 0)))]) hx hb hts hi_RX0 tyX0 tyX0_ok nmX0 hown hK hP hD hS 0 rfl rfl 3 (by decide) hf_15 (fun _ h9 => h9) rfl hin rfl (by decide +kernel) rfl rfl (Nat.le_of_ble_eq_true rfl) dX0_init_17 rfl (fun H locs hP hD hS => ?_)
  refine lv_aload_n hx hb dX0_init_20 rfl (lv_at hl 0 rfl) ?_
  refine lv_sipush (v := nI 256) hx hb dX0_init_21 (by decide) ?_
  refine mq_newa (atype := .boolean) (ty := .boolean) (a0 := (256, .inl (fun _ => 0))) (N' := 256) hx hb (hts (.arrayClass .boolean) (by decide +kernel)) rfl hK hP hD hS hA 1 rfl (fun _ h9 => h9) (fun _ => rfl) (by decide) (nI_clamp (Nat.le_of_ble_eq_true rfl)) (Nat.le_of_ble_eq_true rfl) (Nat.le_of_ble_eq_true rfl) (Nat.le_of_ble_eq_true rfl) dX0_init_24 (fun q3 H hP hD hS => ?_)
  have hP : va_P D vwCl ([(h, .inr (0, [.int 0, .int 0, .ref q1, .ref q2, .int 0, .null, .int 0, .int 0, .int 0, .int 0, .int 0])), (q1, .inl (cyI, 16, .inl (fun _ => 0))), (q2, .inl (cyI, 8, .inl (fun _ => 0))), (q3, .inl (cyZ, 256, .inl (fun _ => 0)))]) H := hP
  have hD : va_D A ([(h, .inr (0, [.int 0, .int 0, .ref q1, .ref q2, .int 0, .null, .int 0, .int 0, .int 0, .int 0, .int 0])), (q1, .inl (cyI, 16, .inl (fun _ => 0))), (q2, .inl (cyI, 8, .inl (fun _ => 0))), (q3, .inl (cyZ, 256, .inl (fun _ => 0)))]) := hD
  refine mq_putF (D := D) (ci := 0) (v := .ref q3) (ty := .array .boolean) (C := RX0) (T := TX0) (N := 11) (ws' := [(h, .inr (0, [.int 0, .int 0, .ref q1, .ref q2, .int 0, .ref q3, .int 0, .int 0, .int 0, .int 0, .int 0])), (q1, .inl (cyI, 16, .inl (fun _ => 0))), (q2, .inl (cyI, 8, .inl (fun _ => 0))), (q3, .inl (cyZ, 256, .inl (fun _ => 0)))]) hx hb hts hi_RX0 tyX0 tyX0_ok nmX0 hown hK hP hD hS 0 rfl rfl 5 (by decide) hf_18 (fun _ h9 => h9) rfl hin rfl (by decide +kernel) rfl rfl (Nat.le_of_ble_eq_true rfl) dX0_init_26 rfl (fun H locs hP hD hS => ?_)
  refine lv_aload_n hx hb dX0_init_29 rfl (lv_at hl 0 rfl) ?_
  refine lv_iload_n hx hb dX0_init_30 rfl (lv_at hl 1 rfl) ?_
  refine lv_iload_n hx hb dX0_init_31 rfl (lv_at hl 2 rfl) ?_
  have hP : va_P D vwCl (CBc cyI cyZ h q1 q2 q3 (0, 0, fun _ => some 0, fun _ => 0, 0, fun _ => false, 0, 0, 0, 0, 0)) H := hP
  have hD : va_D A (CBc cyI cyZ h q1 q2 q3 (0, 0, fun _ => some 0, fun _ => 0, 0, fun _ => false, 0, 0, 0, 0, 0)) := hD
  refine CtV.callV (n := 2) (q0 := 0) (ci := 0) (wc := CBc cyI cyZ h q1 q2 q3 (0, 0, fun _ => some 0, fun _ => 0, 0, fun _ => false, 0, 0, 0, 0, 0)) (wr := ([] : va_W)) (w1 := CBc cyI cyZ h q1 q2 q3 (s', p', fun _ => none, fun _ => 0, 0, fun _ => false, 0, 0, 0, 0, 0)) (ws' := CBc cyI cyZ h q1 q2 q3 (s', p', fun _ => none, fun _ => 0, 0, fun _ => false, 0, 0, 0, 0, 0)) (isC := [0, 1, 2, 3]) (isR := []) (ps := [0, 1, 2, 3]) (As := [.int (nI s'), .int (nI p')]) (rest := []) (c_startEmptyU l D cyI cyZ cyJ h q1 q2 q3 (0, 0, fun _ => some 0, fun _ => 0, 0, fun _ => false, 0, 0, 0, 0, 0) s' p') ⟨hx, hb, hown, hts⟩ gX0_init_X0_startEmpty rfl ⟨rfl, by decide, by decide, by decide +kernel⟩ ⟨Nat.le_of_ble_eq_true rfl, Nat.le_of_ble_eq_true rfl⟩ ⟨rfl, rfl⟩ hml hl.1 hK hP hD hS hA ⟨rfl, rfl, rfl, rfl, rfl, rfl, rfl⟩ rfl ⟨rfl, rfl⟩ rfl rfl (Nat.le_of_ble_eq_true rfl) ⟨Nat.le_of_ble_eq_true rfl, Nat.le_of_ble_eq_true rfl⟩ dX0_init_32 (fun H locs hP hD hS => ?_)
  exact CtN.ret (q1, q2, q3) hQ hx hb hr hlk hK hP hD hS dX0_init_35 rfl
abbrev rmX1_init : Room := { frames := 1, cells := 2, slots := 300, locals := 12 }
set_option maxRecDepth 100000 in
set_option maxHeartbeats 4000000 in
theorem i_la (l : Launch) (D : va_G) (cyI cyZ cyJ : ClassId) (h : Nat)   : CtN (S := Nat × Nat) l yX1_init wsX1_init rmX1_init D (T3 cyI cyZ cyJ) [.ref h] [(h, .inr (1, [.null, .null, .int 0, .int 0]))] (fun u => LAc cyI cyZ h u.1 u.2 (fun _ => 0, fun _ => false, 0, 0)) noN 2 300 := by
  refine CtN.of (cc := cX1_init) (maxL := 1) (ret := none) (lv0 := [(0, .ref h)]) (by decide) rfl (Nat.le_of_ble_eq_true rfl) rfl ?_
  intro p e s m below meth c A ls args Q hx hb hml hr hlk hin hNs hts hown hK hP hA hD hS hl hQ
  have hin : meth.name = "<init>" := hin
  have hown : s.vm.findClass RX1 = some m.cls := hown
  have hi_RX1 : ∀ w ∈ wsX10, w ∈ wsX1_init := by decide +kernel
  have hf_9 := hts (.fieldLink RX1 9 "OutcastBench$LastAccesses" "lines" "[I") (by decide +kernel)
  have hf_15 := hts (.fieldLink RX1 15 "OutcastBench$LastAccesses" "writes" "[Z") (by decide +kernel)
  refine lv_aload_n hx hb dX1_init_0 rfl (lv_at hl 0 rfl) ?_
  refine W.objInit hx hb hown (hts (.methodLink RX1 3 objectInit) (by decide +kernel)) (hts (.instanceMethod objectInit) (by decide +kernel)) (hts (.code objectInit ⟨#[0xb1]⟩ 1 none) (by decide +kernel)) rfl (by rw [hml]; exact hl.1) rfl dX1_init_1 (Nat.le_of_ble_eq_true rfl) (Nat.le_of_ble_eq_true rfl) ?_
  refine W.eq (g2 := F0 m 4 ls []) rfl ?_
  refine lv_aload_n hx hb dX1_init_4 rfl (lv_at hl 0 rfl) ?_
  refine lv_sipush (v := nI 150) hx hb dX1_init_5 (by decide) ?_
  refine mq_newa (atype := .int) (ty := .int) (a0 := (150, .inl (fun _ => 0))) (N' := 150) hx hb (hts (.arrayClass .int) (by decide +kernel)) rfl hK hP hD hS hA 0 rfl (fun _ h9 => h9) (fun _ => rfl) (by decide) (nI_clamp (Nat.le_of_ble_eq_true rfl)) (Nat.le_of_ble_eq_true rfl) (Nat.le_of_ble_eq_true rfl) (Nat.le_of_ble_eq_true rfl) dX1_init_8 (fun q1 H hP hD hS => ?_)
  have hP : va_P D vwCl ([(h, .inr (1, [.null, .null, .int 0, .int 0])), (q1, .inl (cyI, 150, .inl (fun _ => 0)))]) H := hP
  have hD : va_D A ([(h, .inr (1, [.null, .null, .int 0, .int 0])), (q1, .inl (cyI, 150, .inl (fun _ => 0)))]) := hD
  refine mq_putF (D := D) (ci := 1) (v := .ref q1) (ty := .array .int) (C := RX1) (T := TX1) (N := 4) (ws' := [(h, .inr (1, [.ref q1, .null, .int 0, .int 0])), (q1, .inl (cyI, 150, .inl (fun _ => 0)))]) hx hb hts hi_RX1 tyX1 tyX1_ok nmX1 hown hK hP hD hS 0 rfl rfl 0 (by decide) hf_9 (fun _ h9 => h9) rfl hin rfl (by decide +kernel) rfl rfl (Nat.le_of_ble_eq_true rfl) dX1_init_10 rfl (fun H locs hP hD hS => ?_)
  refine lv_aload_n hx hb dX1_init_13 rfl (lv_at hl 0 rfl) ?_
  refine lv_sipush (v := nI 150) hx hb dX1_init_14 (by decide) ?_
  refine mq_newa (atype := .boolean) (ty := .boolean) (a0 := (150, .inl (fun _ => 0))) (N' := 150) hx hb (hts (.arrayClass .boolean) (by decide +kernel)) rfl hK hP hD hS hA 1 rfl (fun _ h9 => h9) (fun _ => rfl) (by decide) (nI_clamp (Nat.le_of_ble_eq_true rfl)) (Nat.le_of_ble_eq_true rfl) (Nat.le_of_ble_eq_true rfl) (Nat.le_of_ble_eq_true rfl) dX1_init_17 (fun q2 H hP hD hS => ?_)
  have hP : va_P D vwCl ([(h, .inr (1, [.ref q1, .null, .int 0, .int 0])), (q1, .inl (cyI, 150, .inl (fun _ => 0))), (q2, .inl (cyZ, 150, .inl (fun _ => 0)))]) H := hP
  have hD : va_D A ([(h, .inr (1, [.ref q1, .null, .int 0, .int 0])), (q1, .inl (cyI, 150, .inl (fun _ => 0))), (q2, .inl (cyZ, 150, .inl (fun _ => 0)))]) := hD
  refine mq_putF (D := D) (ci := 1) (v := .ref q2) (ty := .array .boolean) (C := RX1) (T := TX1) (N := 4) (ws' := [(h, .inr (1, [.ref q1, .ref q2, .int 0, .int 0])), (q1, .inl (cyI, 150, .inl (fun _ => 0))), (q2, .inl (cyZ, 150, .inl (fun _ => 0)))]) hx hb hts hi_RX1 tyX1 tyX1_ok nmX1 hown hK hP hD hS 0 rfl rfl 1 (by decide) hf_15 (fun _ h9 => h9) rfl hin rfl (by decide +kernel) rfl rfl (Nat.le_of_ble_eq_true rfl) dX1_init_19 rfl (fun H locs hP hD hS => ?_)
  exact CtN.ret (q1, q2) hQ hx hb hr hlk hK hP hD hS dX1_init_22 rfl
end
section
def cb_new : CBu := (4, 2, fun _ => none, fun _ => 0, 0, fun _ => false, 0, 0, 0, 0, 0)
def la_new : LAu := (fun _ => 0, fun _ => false, 0, 0)
abbrev rmX2_init : Room := { frames := 3, cells := 13, slots := 2934, locals := 68 }
set_option maxRecDepth 100000 in
set_option maxHeartbeats 4000000 in
theorem i_ob (l : Launch) (D : va_G) (cyI cyZ cyJ : ClassId) (h : Nat) : CtN (S := Nat × Nat × Nat × Nat × Nat × Nat × Nat × Nat × Nat × Nat × Nat × Nat × Nat) l yX2_init wsX2_init rmX2_init D (T3 cyI cyZ cyJ) [.ref h] [(h, .inr (2, [.null, .null, .null, .null, .null]))] (fun z => (OBo cyI h z.1 z.2.1 z.2.2.1 z.2.2.2.2.2.2.1 z.2.2.2.2.2.2.2.2.2.2.1 (fun _ => 0) (fun _ => 0)) ++ ((CBc cyI cyZ z.2.2.1 z.2.2.2.1 z.2.2.2.2.1 z.2.2.2.2.2.1 cb_new) ++ ((CBc cyI cyZ z.2.2.2.2.2.2.1 z.2.2.2.2.2.2.2.1 z.2.2.2.2.2.2.2.2.1 z.2.2.2.2.2.2.2.2.2.1 cb_new) ++ (LAc cyI cyZ z.2.2.2.2.2.2.2.2.2.2.1 z.2.2.2.2.2.2.2.2.2.2.2.1 z.2.2.2.2.2.2.2.2.2.2.2.2 la_new)))) lnkN 13 2934 := by
  refine CtN.of (cc := cX2_init) (maxL := 1) (ret := none) (lv0 := [(0, .ref h)]) (by decide) rfl (Nat.le_of_ble_eq_true rfl) rfl ?_
  intro p e s m below meth c A ls args Q hx hb hml hr hlk hin hNs hts hown hK hP hA hD hS hl hQ
  have hin : meth.name = "<init>" := hin
  have hown : s.vm.findClass RX2 = some m.cls := hown
  have hi_RX0 : ∀ w ∈ wsX00, w ∈ wsX2_init := by decide +kernel
  have hi_RX1 : ∀ w ∈ wsX10, w ∈ wsX2_init := by decide +kernel
  have hi_RX2 : ∀ w ∈ wsX20, w ∈ wsX2_init := by decide +kernel
  have hf_9 := hts (.fieldLink RX2 9 "OutcastBench" "written" "[I") (by decide +kernel)
  have hf_13 := hts (.fieldLink RX2 13 "OutcastBench" "home" "[I") (by decide +kernel)
  have hf_21 := hts (.fieldLink RX2 21 "OutcastBench" "actual" "LOutcastBench$CacheAndBench;") (by decide +kernel)
  have hf_25 := hts (.fieldLink RX2 25 "OutcastBench" "trial" "LOutcastBench$CacheAndBench;") (by decide +kernel)
  have hf_31 := hts (.fieldLink RX2 31 "OutcastBench" "last" "LOutcastBench$LastAccesses;") (by decide +kernel)
  refine lv_aload_n hx hb dX2_init_0 rfl (lv_at hl 0 rfl) ?_
  refine W.objInit hx hb hown (hts (.methodLink RX2 3 objectInit) (by decide +kernel)) (hts (.instanceMethod objectInit) (by decide +kernel)) (hts (.code objectInit ⟨#[0xb1]⟩ 1 none) (by decide +kernel)) rfl (by rw [hml]; exact hl.1) rfl dX2_init_1 (Nat.le_of_ble_eq_true rfl) (Nat.le_of_ble_eq_true rfl) ?_
  refine W.eq (g2 := F0 m 4 ls []) rfl ?_
  refine lv_aload_n hx hb dX2_init_4 rfl (lv_at hl 0 rfl) ?_
  refine lv_sipush (v := nI 1024) hx hb dX2_init_5 (by decide) ?_
  refine mq_newa (atype := .int) (ty := .int) (a0 := (1024, .inl (fun _ => 0))) (N' := 1024) hx hb (hts (.arrayClass .int) (by decide +kernel)) rfl hK hP hD hS hA 0 rfl (fun _ h9 => h9) (fun _ => rfl) (by decide) (nI_clamp (Nat.le_of_ble_eq_true rfl)) (Nat.le_of_ble_eq_true rfl) (Nat.le_of_ble_eq_true rfl) (Nat.le_of_ble_eq_true rfl) dX2_init_8 (fun q1 H hP hD hS => ?_)
  have hP : va_P D vwCl ([(h, .inr (2, [.null, .null, .null, .null, .null])), (q1, .inl (cyI, 1024, .inl (fun _ => 0)))]) H := hP
  have hD : va_D A ([(h, .inr (2, [.null, .null, .null, .null, .null])), (q1, .inl (cyI, 1024, .inl (fun _ => 0)))]) := hD
  refine mq_putF (D := D) (ci := 2) (v := .ref q1) (ty := .array .int) (C := RX2) (T := TX2) (N := 5) (ws' := [(h, .inr (2, [.ref q1, .null, .null, .null, .null])), (q1, .inl (cyI, 1024, .inl (fun _ => 0)))]) hx hb hts hi_RX2 tyX2 tyX2_ok nmX2 hown hK hP hD hS 0 rfl rfl 0 (by decide) hf_9 (fun _ h9 => h9) rfl hin rfl (by decide +kernel) rfl rfl (Nat.le_of_ble_eq_true rfl) dX2_init_10 rfl (fun H locs hP hD hS => ?_)
  refine lv_aload_n hx hb dX2_init_13 rfl (lv_at hl 0 rfl) ?_
  refine lv_sipush (v := nI 1024) hx hb dX2_init_14 (by decide) ?_
  refine mq_newa (atype := .int) (ty := .int) (a0 := (1024, .inl (fun _ => 0))) (N' := 1024) hx hb (hts (.arrayClass .int) (by decide +kernel)) rfl hK hP hD hS hA 0 rfl (fun _ h9 => h9) (fun _ => rfl) (by decide) (nI_clamp (Nat.le_of_ble_eq_true rfl)) (Nat.le_of_ble_eq_true rfl) (Nat.le_of_ble_eq_true rfl) (Nat.le_of_ble_eq_true rfl) dX2_init_17 (fun q2 H hP hD hS => ?_)
  have hP : va_P D vwCl ([(h, .inr (2, [.ref q1, .null, .null, .null, .null])), (q1, .inl (cyI, 1024, .inl (fun _ => 0))), (q2, .inl (cyI, 1024, .inl (fun _ => 0)))]) H := hP
  have hD : va_D A ([(h, .inr (2, [.ref q1, .null, .null, .null, .null])), (q1, .inl (cyI, 1024, .inl (fun _ => 0))), (q2, .inl (cyI, 1024, .inl (fun _ => 0)))]) := hD
  refine mq_putF (D := D) (ci := 2) (v := .ref q2) (ty := .array .int) (C := RX2) (T := TX2) (N := 5) (ws' := [(h, .inr (2, [.ref q1, .ref q2, .null, .null, .null])), (q1, .inl (cyI, 1024, .inl (fun _ => 0))), (q2, .inl (cyI, 1024, .inl (fun _ => 0)))]) hx hb hts hi_RX2 tyX2 tyX2_ok nmX2 hown hK hP hD hS 0 rfl rfl 1 (by decide) hf_13 (fun _ h9 => h9) rfl hin rfl (by decide +kernel) rfl rfl (Nat.le_of_ble_eq_true rfl) dX2_init_19 rfl (fun H locs hP hD hS => ?_)
  refine lv_aload_n hx hb dX2_init_22 rfl (lv_at hl 0 rfl) ?_
  refine va_new (ci := 0) (fs := [.int 0, .int 0, .null, .null, .int 0, .null, .int 0, .int 0, .int 0, .int 0, .int 0]) (C := RX0) (T := TX0) (N := 11) hx hb hts hi_RX0 tyX0 tyX0_ok hown (hts (.classLink RX2 16 RX0) (by decide +kernel)) (hts (.instantiable RX0 11) (by decide +kernel)) (hts (.initialized RX0) (by decide +kernel)) hK hP hD hS hA rfl (fun j hj => by rcases (show j = 0 ∨ j = 1 ∨ j = 2 ∨ j = 3 ∨ j = 4 ∨ j = 5 ∨ j = 6 ∨ j = 7 ∨ j = 8 ∨ j = 9 ∨ j = 10 by omega) with rfl | rfl | rfl | rfl | rfl | rfl | rfl | rfl | rfl | rfl | rfl <;> rfl) (Nat.le_of_ble_eq_true rfl) (Nat.le_of_ble_eq_true rfl) dX2_init_23 (fun hu H hP hD hS => ?_)
  have hP : va_P D vwCl ([(h, .inr (2, [.ref q1, .ref q2, .null, .null, .null])), (q1, .inl (cyI, 1024, .inl (fun _ => 0))), (q2, .inl (cyI, 1024, .inl (fun _ => 0))), (hu, .inr (0, [.int 0, .int 0, .null, .null, .int 0, .null, .int 0, .int 0, .int 0, .int 0, .int 0]))]) H := hP
  have hD : va_D A ([(h, .inr (2, [.ref q1, .ref q2, .null, .null, .null])), (q1, .inl (cyI, 1024, .inl (fun _ => 0))), (q2, .inl (cyI, 1024, .inl (fun _ => 0))), (hu, .inr (0, [.int 0, .int 0, .null, .null, .int 0, .null, .int 0, .int 0, .int 0, .int 0, .int 0]))]) := hD
  refine lv_dup hx hb dX2_init_26 rfl ?_
  refine lv_iconst (v := nI 4) hx hb dX2_init_27 (by decide) ?_
  refine lv_iconst (v := nI 2) hx hb dX2_init_28 (by decide) ?_
  refine CtN.callI (n := 2) (index := 18) (wc := [(hu, .inr (0, [.int 0, .int 0, .null, .null, .int 0, .null, .int 0, .int 0, .int 0, .int 0, .int 0]))]) (wr := [(h, .inr (2, [.ref q1, .ref q2, .null, .null, .null])), (q1, .inl (cyI, 1024, .inl (fun _ => 0))), (q2, .inl (cyI, 1024, .inl (fun _ => 0)))]) (isC := [3]) (isR := [0, 1, 2]) (As := [.int (nI 4), .int (nI 2)]) (rest := [.ref hu, .ref h]) (i_cb l D cyI cyZ cyJ hu 4 2) ⟨hx, hb, hown, hts⟩ (cwI 2 hts gX2_init_X0_init rfl rfl rfl (hts (.initialized RX0) (by decide +kernel)) (hts (.methodLink RX2 18 yX0_init) (by decide +kernel)) (hts (.instanceMethod yX0_init) (by decide +kernel)) rfl (by decide +kernel) ⟨Nat.le_of_ble_eq_true rfl, Nat.le_of_ble_eq_true rfl⟩) noN_b (fun _ _ _ => trivial) hml hl.1 hK hP hD hS hA rfl rfl rfl rfl rfl rfl rfl (Nat.le_of_ble_eq_true rfl) ⟨Nat.le_of_ble_eq_true rfl, Nat.le_of_ble_eq_true rfl⟩ dX2_init_29 (fun zu H locs hP hD hS => ?_)
  obtain ⟨u1, u2, u3⟩ := zu
  have hP : va_P D vwCl ([(h, .inr (2, [.ref q1, .ref q2, .null, .null, .null])), (q1, .inl (cyI, 1024, .inl (fun _ => 0))), (q2, .inl (cyI, 1024, .inl (fun _ => 0))), (hu, .inr (0, [.int (nI 4), .int (nI 2), .ref u1, .ref u2, .int (nI 0), .ref u3, .int 0, .int 0, .int 0, .int 0, .int 0])), (u1, .inl (cyI, 16, .inl (fun j => oI ((fun _ => none) j)))), (u2, .inl (cyI, 8, .inl (fun j => nI ((fun _ => 0) j)))), (u3, .inl (cyZ, 256, .inl (fun j => bI ((fun _ => false) j))))]) H := hP
  have hD : va_D A ([(h, .inr (2, [.ref q1, .ref q2, .null, .null, .null])), (q1, .inl (cyI, 1024, .inl (fun _ => 0))), (q2, .inl (cyI, 1024, .inl (fun _ => 0))), (hu, .inr (0, [.int (nI 4), .int (nI 2), .ref u1, .ref u2, .int (nI 0), .ref u3, .int 0, .int 0, .int 0, .int 0, .int 0])), (u1, .inl (cyI, 16, .inl (fun j => oI ((fun _ => none) j)))), (u2, .inl (cyI, 8, .inl (fun j => nI ((fun _ => 0) j)))), (u3, .inl (cyZ, 256, .inl (fun j => bI ((fun _ => false) j))))]) := hD
  refine mq_putF (D := D) (ci := 2) (v := .ref hu) (ty := .object "OutcastBench$CacheAndBench") (C := RX2) (T := TX2) (N := 5) (ws' := [(h, .inr (2, [.ref q1, .ref q2, .ref hu, .null, .null])), (q1, .inl (cyI, 1024, .inl (fun _ => 0))), (q2, .inl (cyI, 1024, .inl (fun _ => 0))), (hu, .inr (0, [.int (nI 4), .int (nI 2), .ref u1, .ref u2, .int (nI 0), .ref u3, .int 0, .int 0, .int 0, .int 0, .int 0])), (u1, .inl (cyI, 16, .inl (fun j => oI ((fun _ => none) j)))), (u2, .inl (cyI, 8, .inl (fun j => nI ((fun _ => 0) j)))), (u3, .inl (cyZ, 256, .inl (fun j => bI ((fun _ => false) j))))]) hx hb hts hi_RX2 tyX2 tyX2_ok nmX2 hown hK hP hD hS 0 rfl rfl 2 (by decide) hf_21 (fun _ h9 => h9) rfl hin rfl (by decide +kernel) rfl rfl (Nat.le_of_ble_eq_true rfl) dX2_init_32 rfl (fun H locs hP hD hS => ?_)
  refine lv_aload_n hx hb dX2_init_35 rfl (lv_at hl 0 rfl) ?_
  refine va_new (ci := 0) (fs := [.int 0, .int 0, .null, .null, .int 0, .null, .int 0, .int 0, .int 0, .int 0, .int 0]) (C := RX0) (T := TX0) (N := 11) hx hb hts hi_RX0 tyX0 tyX0_ok hown (hts (.classLink RX2 16 RX0) (by decide +kernel)) (hts (.instantiable RX0 11) (by decide +kernel)) (hts (.initialized RX0) (by decide +kernel)) hK hP hD hS hA rfl (fun j hj => by rcases (show j = 0 ∨ j = 1 ∨ j = 2 ∨ j = 3 ∨ j = 4 ∨ j = 5 ∨ j = 6 ∨ j = 7 ∨ j = 8 ∨ j = 9 ∨ j = 10 by omega) with rfl | rfl | rfl | rfl | rfl | rfl | rfl | rfl | rfl | rfl | rfl <;> rfl) (Nat.le_of_ble_eq_true rfl) (Nat.le_of_ble_eq_true rfl) dX2_init_36 (fun ht H hP hD hS => ?_)
  have hP : va_P D vwCl ([(h, .inr (2, [.ref q1, .ref q2, .ref hu, .null, .null])), (q1, .inl (cyI, 1024, .inl (fun _ => 0))), (q2, .inl (cyI, 1024, .inl (fun _ => 0))), (hu, .inr (0, [.int (nI 4), .int (nI 2), .ref u1, .ref u2, .int (nI 0), .ref u3, .int 0, .int 0, .int 0, .int 0, .int 0])), (u1, .inl (cyI, 16, .inl (fun j => oI ((fun _ => none) j)))), (u2, .inl (cyI, 8, .inl (fun j => nI ((fun _ => 0) j)))), (u3, .inl (cyZ, 256, .inl (fun j => bI ((fun _ => false) j)))), (ht, .inr (0, [.int 0, .int 0, .null, .null, .int 0, .null, .int 0, .int 0, .int 0, .int 0, .int 0]))]) H := hP
  have hD : va_D A ([(h, .inr (2, [.ref q1, .ref q2, .ref hu, .null, .null])), (q1, .inl (cyI, 1024, .inl (fun _ => 0))), (q2, .inl (cyI, 1024, .inl (fun _ => 0))), (hu, .inr (0, [.int (nI 4), .int (nI 2), .ref u1, .ref u2, .int (nI 0), .ref u3, .int 0, .int 0, .int 0, .int 0, .int 0])), (u1, .inl (cyI, 16, .inl (fun j => oI ((fun _ => none) j)))), (u2, .inl (cyI, 8, .inl (fun j => nI ((fun _ => 0) j)))), (u3, .inl (cyZ, 256, .inl (fun j => bI ((fun _ => false) j)))), (ht, .inr (0, [.int 0, .int 0, .null, .null, .int 0, .null, .int 0, .int 0, .int 0, .int 0, .int 0]))]) := hD
  refine lv_dup hx hb dX2_init_39 rfl ?_
  refine lv_iconst (v := nI 4) hx hb dX2_init_40 (by decide) ?_
  refine lv_iconst (v := nI 2) hx hb dX2_init_41 (by decide) ?_
  refine CtN.callI (n := 2) (index := 18) (wc := [(ht, .inr (0, [.int 0, .int 0, .null, .null, .int 0, .null, .int 0, .int 0, .int 0, .int 0, .int 0]))]) (wr := [(h, .inr (2, [.ref q1, .ref q2, .ref hu, .null, .null])), (q1, .inl (cyI, 1024, .inl (fun _ => 0))), (q2, .inl (cyI, 1024, .inl (fun _ => 0))), (hu, .inr (0, [.int (nI 4), .int (nI 2), .ref u1, .ref u2, .int (nI 0), .ref u3, .int 0, .int 0, .int 0, .int 0, .int 0])), (u1, .inl (cyI, 16, .inl (fun j => oI ((fun _ => none) j)))), (u2, .inl (cyI, 8, .inl (fun j => nI ((fun _ => 0) j)))), (u3, .inl (cyZ, 256, .inl (fun j => bI ((fun _ => false) j))))]) (isC := [7]) (isR := [0, 1, 2, 3, 4, 5, 6]) (As := [.int (nI 4), .int (nI 2)]) (rest := [.ref ht, .ref h]) (i_cb l D cyI cyZ cyJ ht 4 2) ⟨hx, hb, hown, hts⟩ (cwI 2 hts gX2_init_X0_init rfl rfl rfl (hts (.initialized RX0) (by decide +kernel)) (hts (.methodLink RX2 18 yX0_init) (by decide +kernel)) (hts (.instanceMethod yX0_init) (by decide +kernel)) rfl (by decide +kernel) ⟨Nat.le_of_ble_eq_true rfl, Nat.le_of_ble_eq_true rfl⟩) noN_b (fun _ _ _ => trivial) hml hl.1 hK hP hD hS hA rfl rfl rfl rfl rfl rfl rfl (Nat.le_of_ble_eq_true rfl) ⟨Nat.le_of_ble_eq_true rfl, Nat.le_of_ble_eq_true rfl⟩ dX2_init_42 (fun zt H locs hP hD hS => ?_)
  obtain ⟨t1, t2, t3⟩ := zt
  have hP : va_P D vwCl ([(h, .inr (2, [.ref q1, .ref q2, .ref hu, .null, .null])), (q1, .inl (cyI, 1024, .inl (fun _ => 0))), (q2, .inl (cyI, 1024, .inl (fun _ => 0))), (hu, .inr (0, [.int (nI 4), .int (nI 2), .ref u1, .ref u2, .int (nI 0), .ref u3, .int 0, .int 0, .int 0, .int 0, .int 0])), (u1, .inl (cyI, 16, .inl (fun j => oI ((fun _ => none) j)))), (u2, .inl (cyI, 8, .inl (fun j => nI ((fun _ => 0) j)))), (u3, .inl (cyZ, 256, .inl (fun j => bI ((fun _ => false) j)))), (ht, .inr (0, [.int (nI 4), .int (nI 2), .ref t1, .ref t2, .int (nI 0), .ref t3, .int 0, .int 0, .int 0, .int 0, .int 0])), (t1, .inl (cyI, 16, .inl (fun j => oI ((fun _ => none) j)))), (t2, .inl (cyI, 8, .inl (fun j => nI ((fun _ => 0) j)))), (t3, .inl (cyZ, 256, .inl (fun j => bI ((fun _ => false) j))))]) H := hP
  have hD : va_D A ([(h, .inr (2, [.ref q1, .ref q2, .ref hu, .null, .null])), (q1, .inl (cyI, 1024, .inl (fun _ => 0))), (q2, .inl (cyI, 1024, .inl (fun _ => 0))), (hu, .inr (0, [.int (nI 4), .int (nI 2), .ref u1, .ref u2, .int (nI 0), .ref u3, .int 0, .int 0, .int 0, .int 0, .int 0])), (u1, .inl (cyI, 16, .inl (fun j => oI ((fun _ => none) j)))), (u2, .inl (cyI, 8, .inl (fun j => nI ((fun _ => 0) j)))), (u3, .inl (cyZ, 256, .inl (fun j => bI ((fun _ => false) j)))), (ht, .inr (0, [.int (nI 4), .int (nI 2), .ref t1, .ref t2, .int (nI 0), .ref t3, .int 0, .int 0, .int 0, .int 0, .int 0])), (t1, .inl (cyI, 16, .inl (fun j => oI ((fun _ => none) j)))), (t2, .inl (cyI, 8, .inl (fun j => nI ((fun _ => 0) j)))), (t3, .inl (cyZ, 256, .inl (fun j => bI ((fun _ => false) j))))]) := hD
  refine mq_putF (D := D) (ci := 2) (v := .ref ht) (ty := .object "OutcastBench$CacheAndBench") (C := RX2) (T := TX2) (N := 5) (ws' := [(h, .inr (2, [.ref q1, .ref q2, .ref hu, .ref ht, .null])), (q1, .inl (cyI, 1024, .inl (fun _ => 0))), (q2, .inl (cyI, 1024, .inl (fun _ => 0))), (hu, .inr (0, [.int (nI 4), .int (nI 2), .ref u1, .ref u2, .int (nI 0), .ref u3, .int 0, .int 0, .int 0, .int 0, .int 0])), (u1, .inl (cyI, 16, .inl (fun j => oI ((fun _ => none) j)))), (u2, .inl (cyI, 8, .inl (fun j => nI ((fun _ => 0) j)))), (u3, .inl (cyZ, 256, .inl (fun j => bI ((fun _ => false) j)))), (ht, .inr (0, [.int (nI 4), .int (nI 2), .ref t1, .ref t2, .int (nI 0), .ref t3, .int 0, .int 0, .int 0, .int 0, .int 0])), (t1, .inl (cyI, 16, .inl (fun j => oI ((fun _ => none) j)))), (t2, .inl (cyI, 8, .inl (fun j => nI ((fun _ => 0) j)))), (t3, .inl (cyZ, 256, .inl (fun j => bI ((fun _ => false) j))))]) hx hb hts hi_RX2 tyX2 tyX2_ok nmX2 hown hK hP hD hS 0 rfl rfl 3 (by decide) hf_25 (fun _ h9 => h9) rfl hin rfl (by decide +kernel) rfl rfl (Nat.le_of_ble_eq_true rfl) dX2_init_45 rfl (fun H locs hP hD hS => ?_)
  refine lv_aload_n hx hb dX2_init_48 rfl (lv_at hl 0 rfl) ?_
  refine va_new (ci := 1) (fs := [.null, .null, .int 0, .int 0]) (C := RX1) (T := TX1) (N := 4) hx hb hts hi_RX1 tyX1 tyX1_ok hown (hts (.classLink RX2 28 RX1) (by decide +kernel)) (hts (.instantiable RX1 4) (by decide +kernel)) (hts (.initialized RX1) (by decide +kernel)) hK hP hD hS hA rfl (fun j hj => by rcases (show j = 0 ∨ j = 1 ∨ j = 2 ∨ j = 3 by omega) with rfl | rfl | rfl | rfl <;> rfl) (Nat.le_of_ble_eq_true rfl) (Nat.le_of_ble_eq_true rfl) dX2_init_49 (fun hw H hP hD hS => ?_)
  have hP : va_P D vwCl ([(h, .inr (2, [.ref q1, .ref q2, .ref hu, .ref ht, .null])), (q1, .inl (cyI, 1024, .inl (fun _ => 0))), (q2, .inl (cyI, 1024, .inl (fun _ => 0))), (hu, .inr (0, [.int (nI 4), .int (nI 2), .ref u1, .ref u2, .int (nI 0), .ref u3, .int 0, .int 0, .int 0, .int 0, .int 0])), (u1, .inl (cyI, 16, .inl (fun j => oI ((fun _ => none) j)))), (u2, .inl (cyI, 8, .inl (fun j => nI ((fun _ => 0) j)))), (u3, .inl (cyZ, 256, .inl (fun j => bI ((fun _ => false) j)))), (ht, .inr (0, [.int (nI 4), .int (nI 2), .ref t1, .ref t2, .int (nI 0), .ref t3, .int 0, .int 0, .int 0, .int 0, .int 0])), (t1, .inl (cyI, 16, .inl (fun j => oI ((fun _ => none) j)))), (t2, .inl (cyI, 8, .inl (fun j => nI ((fun _ => 0) j)))), (t3, .inl (cyZ, 256, .inl (fun j => bI ((fun _ => false) j)))), (hw, .inr (1, [.null, .null, .int 0, .int 0]))]) H := hP
  have hD : va_D A ([(h, .inr (2, [.ref q1, .ref q2, .ref hu, .ref ht, .null])), (q1, .inl (cyI, 1024, .inl (fun _ => 0))), (q2, .inl (cyI, 1024, .inl (fun _ => 0))), (hu, .inr (0, [.int (nI 4), .int (nI 2), .ref u1, .ref u2, .int (nI 0), .ref u3, .int 0, .int 0, .int 0, .int 0, .int 0])), (u1, .inl (cyI, 16, .inl (fun j => oI ((fun _ => none) j)))), (u2, .inl (cyI, 8, .inl (fun j => nI ((fun _ => 0) j)))), (u3, .inl (cyZ, 256, .inl (fun j => bI ((fun _ => false) j)))), (ht, .inr (0, [.int (nI 4), .int (nI 2), .ref t1, .ref t2, .int (nI 0), .ref t3, .int 0, .int 0, .int 0, .int 0, .int 0])), (t1, .inl (cyI, 16, .inl (fun j => oI ((fun _ => none) j)))), (t2, .inl (cyI, 8, .inl (fun j => nI ((fun _ => 0) j)))), (t3, .inl (cyZ, 256, .inl (fun j => bI ((fun _ => false) j)))), (hw, .inr (1, [.null, .null, .int 0, .int 0]))]) := hD
  refine lv_dup hx hb dX2_init_52 rfl ?_
  refine CtN.callIN (n := 0) (index := 30) (host := RX2) (wc := [(hw, .inr (1, [.null, .null, .int 0, .int 0]))]) (wr := [(h, .inr (2, [.ref q1, .ref q2, .ref hu, .ref ht, .null])), (q1, .inl (cyI, 1024, .inl (fun _ => 0))), (q2, .inl (cyI, 1024, .inl (fun _ => 0))), (hu, .inr (0, [.int (nI 4), .int (nI 2), .ref u1, .ref u2, .int (nI 0), .ref u3, .int 0, .int 0, .int 0, .int 0, .int 0])), (u1, .inl (cyI, 16, .inl (fun j => oI ((fun _ => none) j)))), (u2, .inl (cyI, 8, .inl (fun j => nI ((fun _ => 0) j)))), (u3, .inl (cyZ, 256, .inl (fun j => bI ((fun _ => false) j)))), (ht, .inr (0, [.int (nI 4), .int (nI 2), .ref t1, .ref t2, .int (nI 0), .ref t3, .int 0, .int 0, .int 0, .int 0, .int 0])), (t1, .inl (cyI, 16, .inl (fun j => oI ((fun _ => none) j)))), (t2, .inl (cyI, 8, .inl (fun j => nI ((fun _ => 0) j)))), (t3, .inl (cyZ, 256, .inl (fun j => bI ((fun _ => false) j))))]) (isC := [11]) (isR := [0, 1, 2, 3, 4, 5, 6, 7, 8, 9, 10]) (As := []) (rest := [.ref hw, .ref h]) (i_la l D cyI cyZ cyJ hw) ⟨hx, hb, hown, hts⟩ ⟨va_cnB 0 hts gX2_init_X1_init_n30 rfl rfl rfl hNs (hts (.initialized RX1) (by decide +kernel)) (by decide +kernel) ⟨Nat.le_of_ble_eq_true rfl, Nat.le_of_ble_eq_true rfl⟩, rfl, hts (.instanceMethod yX1_init) (by decide +kernel)⟩ noN_b (fun _ _ _ => trivial) hml hl.1 hK hP hD hS hA rfl rfl rfl rfl rfl rfl rfl (Nat.le_of_ble_eq_true rfl) ⟨Nat.le_of_ble_eq_true rfl, Nat.le_of_ble_eq_true rfl⟩ dX2_init_53 (fun zl H locs hP hD hS => ?_)
  obtain ⟨l1, l2⟩ := zl
  have hP : va_P D vwCl ([(h, .inr (2, [.ref q1, .ref q2, .ref hu, .ref ht, .null])), (q1, .inl (cyI, 1024, .inl (fun _ => 0))), (q2, .inl (cyI, 1024, .inl (fun _ => 0))), (hu, .inr (0, [.int (nI 4), .int (nI 2), .ref u1, .ref u2, .int (nI 0), .ref u3, .int 0, .int 0, .int 0, .int 0, .int 0])), (u1, .inl (cyI, 16, .inl (fun j => oI ((fun _ => none) j)))), (u2, .inl (cyI, 8, .inl (fun j => nI ((fun _ => 0) j)))), (u3, .inl (cyZ, 256, .inl (fun j => bI ((fun _ => false) j)))), (ht, .inr (0, [.int (nI 4), .int (nI 2), .ref t1, .ref t2, .int (nI 0), .ref t3, .int 0, .int 0, .int 0, .int 0, .int 0])), (t1, .inl (cyI, 16, .inl (fun j => oI ((fun _ => none) j)))), (t2, .inl (cyI, 8, .inl (fun j => nI ((fun _ => 0) j)))), (t3, .inl (cyZ, 256, .inl (fun j => bI ((fun _ => false) j)))), (hw, .inr (1, [.ref l1, .ref l2, .int (nI 0), .int (nI 0)])), (l1, .inl (cyI, 150, .inl (fun j => nI ((fun _ => 0) j)))), (l2, .inl (cyZ, 150, .inl (fun j => bI ((fun _ => false) j))))]) H := hP
  have hD : va_D A ([(h, .inr (2, [.ref q1, .ref q2, .ref hu, .ref ht, .null])), (q1, .inl (cyI, 1024, .inl (fun _ => 0))), (q2, .inl (cyI, 1024, .inl (fun _ => 0))), (hu, .inr (0, [.int (nI 4), .int (nI 2), .ref u1, .ref u2, .int (nI 0), .ref u3, .int 0, .int 0, .int 0, .int 0, .int 0])), (u1, .inl (cyI, 16, .inl (fun j => oI ((fun _ => none) j)))), (u2, .inl (cyI, 8, .inl (fun j => nI ((fun _ => 0) j)))), (u3, .inl (cyZ, 256, .inl (fun j => bI ((fun _ => false) j)))), (ht, .inr (0, [.int (nI 4), .int (nI 2), .ref t1, .ref t2, .int (nI 0), .ref t3, .int 0, .int 0, .int 0, .int 0, .int 0])), (t1, .inl (cyI, 16, .inl (fun j => oI ((fun _ => none) j)))), (t2, .inl (cyI, 8, .inl (fun j => nI ((fun _ => 0) j)))), (t3, .inl (cyZ, 256, .inl (fun j => bI ((fun _ => false) j)))), (hw, .inr (1, [.ref l1, .ref l2, .int (nI 0), .int (nI 0)])), (l1, .inl (cyI, 150, .inl (fun j => nI ((fun _ => 0) j)))), (l2, .inl (cyZ, 150, .inl (fun j => bI ((fun _ => false) j))))]) := hD
  refine mq_putF (D := D) (ci := 2) (v := .ref hw) (ty := .object "OutcastBench$LastAccesses") (C := RX2) (T := TX2) (N := 5) (ws' := [(h, .inr (2, [.ref q1, .ref q2, .ref hu, .ref ht, .ref hw])), (q1, .inl (cyI, 1024, .inl (fun _ => 0))), (q2, .inl (cyI, 1024, .inl (fun _ => 0))), (hu, .inr (0, [.int (nI 4), .int (nI 2), .ref u1, .ref u2, .int (nI 0), .ref u3, .int 0, .int 0, .int 0, .int 0, .int 0])), (u1, .inl (cyI, 16, .inl (fun j => oI ((fun _ => none) j)))), (u2, .inl (cyI, 8, .inl (fun j => nI ((fun _ => 0) j)))), (u3, .inl (cyZ, 256, .inl (fun j => bI ((fun _ => false) j)))), (ht, .inr (0, [.int (nI 4), .int (nI 2), .ref t1, .ref t2, .int (nI 0), .ref t3, .int 0, .int 0, .int 0, .int 0, .int 0])), (t1, .inl (cyI, 16, .inl (fun j => oI ((fun _ => none) j)))), (t2, .inl (cyI, 8, .inl (fun j => nI ((fun _ => 0) j)))), (t3, .inl (cyZ, 256, .inl (fun j => bI ((fun _ => false) j)))), (hw, .inr (1, [.ref l1, .ref l2, .int (nI 0), .int (nI 0)])), (l1, .inl (cyI, 150, .inl (fun j => nI ((fun _ => 0) j)))), (l2, .inl (cyZ, 150, .inl (fun j => bI ((fun _ => false) j))))]) hx hb hts hi_RX2 tyX2 tyX2_ok nmX2 hown hK hP hD hS 0 rfl rfl 4 (by decide) hf_31 (fun _ h9 => h9) rfl hin rfl (by decide +kernel) rfl rfl (Nat.le_of_ble_eq_true rfl) dX2_init_56 rfl (fun H locs hP hD hS => ?_)
  exact CtN.ret (q1, q2, hu, u1, u2, u3, ht, t1, t2, t3, hw, l1, l2) hQ hx hb hr hlk hK hP hD hS dX2_init_59 rfl
end
section
/-! what the program keeps, its counts, all brought home -/
/-- what the program's state keeps; line x may be dirty without a place, and has none -/
def Ok (x : Nat) : CBu → Prop := fun (sc, pl, ln, bn, n, dt, hi, sw, mi, hc, co) => (sc = 1 ∨ sc = 2 ∨ sc = 4 ∨ sc = 8 ∨ sc = 16) ∧ pl ≤ 8 ∧ n ≤ pl ∧ (∀ s q, ln s = some q → s < sc ∧ q % sc = s ∧ q < 256 ∧ q ≠ x) ∧ (∀ k, k < n → bn k < 256 ∧ bn k ≠ x ∧ ln (bn k % sc) ≠ some (bn k)) ∧ (∀ i j, i < n → j < n → bn i = bn j → i = j) ∧ ∀ q, q < 256 → q ≠ x → dt q = true → ln (q % sc) = some q ∨ ∃ k, k < n ∧ bn k = q
theorem okS_lt {sc : Nat} (h : sc = 1 ∨ sc = 2 ∨ sc = 4 ∨ sc = 8 ∨ sc = 16) : 0 < sc ∧ sc ≤ 16 := by omega
/-! the program's state alone -/
theorem ok_in {q : Nat} {sc : Nat} {pl : Nat} {ln : Nat → Option Nat} {bn : Nat → Nat} {n : Nat} {dt : Nat → Bool} {hi : Int32} {sw : Int32} {mi : Int32} {hc : Int32} {co : Int32} (h : Ok 256 (sc, pl, ln, bn, n, dt, hi, sw, mi, hc, co)) (h1 : ln (q % sc) ≠ some q) (h2 : ∀ k, k < n → bn k ≠ q) : Ok q (sc, pl, ln, bn, n, dt, hi, sw, mi, hc, co) := by
  obtain ⟨a1, a2, a3, a4, a5, a6, a7⟩ := h
  refine ⟨a1, a2, a3, fun s r hs => ?_, fun k hk => ⟨(a5 k hk).1, h2 k hk, (a5 k hk).2.2⟩, a6, fun r hr _ hd => a7 r hr (by omega) hd⟩
  obtain ⟨b1, b2, b3, -⟩ := a4 s r hs
  refine ⟨b1, b2, b3, fun hq => ?_⟩
  subst hq
  rw [← b2] at hs
  exact h1 hs
theorem shl_lo {f : Nat → Nat} {a b j : Nat} (h : j < a) : shl f a b j = f j := by
  unfold shl
  rw [if_neg (by omega)]
theorem shl_md {f : Nat → Nat} {a b j : Nat} (h : a ≤ j) (h2 : j < b) : shl f a b j = f (j + 1) := by
  unfold shl
  rw [if_pos ⟨h, h2⟩]
/-- the k-th leaves: what the rest is -/
theorem leave_at {bn : Nat → Nat} {n k j : Nat} (hj : j < n - 1) : ∃ i, i < n ∧ i ≠ k ∧ shl bn k (n - 1) j = bn i ∧ ((j < k ∧ i = j) ∨ (k ≤ j ∧ i = j + 1)) := by
  by_cases h : j < k
  · exact ⟨j, by omega, by omega, shl_lo h, Or.inl ⟨h, rfl⟩⟩
  · exact ⟨j + 1, by omega, by omega, shl_md (by omega) hj, Or.inr ⟨by omega, rfl⟩⟩
theorem leave_has {bn : Nat → Nat} {n k i : Nat} (hi : i < n) (hkn : k < n) (hk : i ≠ k) : ∃ j, j < n - 1 ∧ shl bn k (n - 1) j = bn i := by
  by_cases h : i < k
  · exact ⟨i, by omega, shl_lo h⟩
  · refine ⟨i - 1, by omega, ?_⟩
    rw [shl_md (by omega) (by omega), show i - 1 + 1 = i by omega]
theorem ok_leave {q k : Nat} {sc : Nat} {pl : Nat} {ln : Nat → Option Nat} {bn : Nat → Nat} {n : Nat} {dt : Nat → Bool} {hi : Int32} {sw : Int32} {mi : Int32} {hc : Int32} {co : Int32} (h : Ok 256 (sc, pl, ln, bn, n, dt, hi, sw, mi, hc, co)) (hk : k < n) (hq : bn k = q) : Ok q (cb_leave k (sc, pl, ln, bn, n, dt, hi, sw, mi, hc, co)) := by
  obtain ⟨a1, a2, a3, a4, a5, a6, a7⟩ := h
  refine ⟨a1, a2, by show n - 1 ≤ pl; omega, fun s r hs => ?_, fun j hj => ?_, fun i j hi hj e => ?_, fun r hr hrq hd => ?_⟩
  · obtain ⟨b1, b2, b3, -⟩ := a4 s r hs
    refine ⟨b1, b2, b3, fun e => ?_⟩
    have hs : ln s = some r := hs
    rw [← b2, e, ← hq] at hs
    exact (a5 k hk).2.2 hs
  · have hj : j < n - 1 := hj
    obtain ⟨i, c1, c2, c3, -⟩ := leave_at (bn := bn) (k := k) hj
    show shl bn k (n - 1) j < 256 ∧ shl bn k (n - 1) j ≠ q ∧ ln (shl bn k (n - 1) j % sc) ≠ some (shl bn k (n - 1) j)
    rw [c3]
    exact ⟨(a5 i c1).1, fun e => c2 (a6 i k c1 hk (e.trans hq.symm)), (a5 i c1).2.2⟩
  · have hi : i < n - 1 := hi
    have hj : j < n - 1 := hj
    have e : shl bn k (n - 1) i = shl bn k (n - 1) j := e
    obtain ⟨i', c1, c2, c3, c4⟩ := leave_at (bn := bn) (k := k) hi
    obtain ⟨j', d1, d2, d3, d4⟩ := leave_at (bn := bn) (k := k) hj
    rw [c3, d3] at e
    have := a6 i' j' c1 d1 e
    omega
  · rcases a7 r hr (by omega) hd with c | ⟨i, c1, c2⟩
    · exact Or.inl c
    · have hik : i ≠ k := fun e => hrq (by rw [← c2, e, hq])
      obtain ⟨j, d1, d2⟩ := leave_has (bn := bn) c1 hk hik
      exact Or.inr ⟨j, d1, d2.trans c2⟩
/-- the oldest leaves and goes home -/
theorem ok_old {x : Nat} {sc : Nat} {pl : Nat} {ln : Nat → Option Nat} {bn : Nat → Nat} {n : Nat} {dt : Nat → Bool} {hi : Int32} {sw : Int32} {mi : Int32} {hc : Int32} {co : Int32} (h : Ok x (sc, pl, ln, bn, n, dt, hi, sw, mi, hc, co)) (hn : 0 < n) : Ok x (cb_leave 0 (cb_bh (bn 0) (sc, pl, ln, bn, n, dt, hi, sw, mi, hc, co))) := by
  obtain ⟨a1, a2, a3, a4, a5, a6, a7⟩ := h
  refine ⟨a1, a2, by show n - 1 ≤ pl; omega, a4, fun j hj => ?_, fun i j hi hj e => ?_, fun r hr hrq hd => ?_⟩
  · have hj : j < n - 1 := hj
    obtain ⟨i, c1, c2, c3, -⟩ := leave_at (bn := bn) (k := 0) hj
    show shl bn 0 (n - 1) j < 256 ∧ shl bn 0 (n - 1) j ≠ x ∧ ln (shl bn 0 (n - 1) j % sc) ≠ some (shl bn 0 (n - 1) j)
    rw [c3]
    exact a5 i c1
  · have hi : i < n - 1 := hi
    have hj : j < n - 1 := hj
    have e : shl bn 0 (n - 1) i = shl bn 0 (n - 1) j := e
    obtain ⟨i', c1, c2, c3, c4⟩ := leave_at (bn := bn) (k := 0) hi
    obtain ⟨j', d1, d2, d3, d4⟩ := leave_at (bn := bn) (k := 0) hj
    rw [c3, d3] at e
    have := a6 i' j' c1 d1 e
    omega
  · have hd : ru dt (bn 0) false r = true := hd
    have hr0 : r ≠ bn 0 := fun e => by rw [e, ru_s] at hd; cases hd
    rw [ru_n _ _ hr0] at hd
    rcases a7 r hr hrq hd with c | ⟨i, c1, c2⟩
    · exact Or.inl c
    · have hik : i ≠ 0 := fun e => hr0 (by rw [← c2, e])
      obtain ⟨j, d1, d2⟩ := leave_has (bn := bn) (k := 0) c1 hn hik
      exact Or.inr ⟨j, d1, d2.trans c2⟩
theorem ru_none {ln : Nat → Option Nat} {s t r : Nat} (h : ru ln s none t = some r) : t ≠ s ∧ ln t = some r := by
  unfold ru at h
  split at h
  · cases h
  · rename_i hn
    exact ⟨hn, h⟩
theorem ok_sitn {x s q : Nat} {sc : Nat} {pl : Nat} {ln : Nat → Option Nat} {bn : Nat → Nat} {n : Nat} {dt : Nat → Bool} {hi : Int32} {sw : Int32} {mi : Int32} {hc : Int32} {co : Int32} (h : Ok x (sc, pl, ln, bn, n, dt, hi, sw, mi, hc, co)) (hs : ln s = some q) (hn : n < pl) : Ok x (cb_sit q (sc, pl, ru ln s none, bn, n, dt, hi, sw, mi, hc, co)) := by
  obtain ⟨a1, a2, a3, a4, a5, a6, a7⟩ := h
  obtain ⟨b1, b2, b3, b4⟩ := a4 s q hs
  have hne : ∀ k, k < n → bn k ≠ q := fun k hk e => (a5 k hk).2.2 (by rw [e, b2]; exact hs)
  refine ⟨a1, a2, by show n + 1 ≤ pl; omega, fun t r ht => a4 t r (ru_none ht).2, fun k hk => ?_, fun i j hi hj e => ?_, fun r hr hrq hd => ?_⟩
  · have hk : k < n + 1 := hk
    show ru bn n q k < 256 ∧ ru bn n q k ≠ x ∧ ru ln s none (ru bn n q k % sc) ≠ some (ru bn n q k)
    by_cases hkn : k = n
    · subst hkn
      rw [ru_s]
      exact ⟨b3, b4, fun e => (ru_none e).1 b2⟩
    · rw [ru_n _ _ hkn]
      have := a5 k (by omega)
      exact ⟨this.1, this.2.1, fun e => this.2.2 (ru_none e).2⟩
  · have hi : i < n + 1 := hi
    have hj : j < n + 1 := hj
    have e : ru bn n q i = ru bn n q j := e
    by_cases hin : i = n
    · by_cases hjn : j = n
      · omega
      · rw [hin, ru_s, ru_n _ _ hjn] at e
        exact absurd e.symm (hne j (by omega))
    · by_cases hjn : j = n
      · rw [hjn, ru_s, ru_n _ _ hin] at e
        exact absurd e (hne i (by omega))
      · rw [ru_n _ _ hin, ru_n _ _ hjn] at e
        exact a6 i j (by omega) (by omega) e
  · show ru ln s none (r % sc) = some r ∨ ∃ k, k < n + 1 ∧ ru bn n q k = r
    by_cases hq : r = q
    · exact Or.inr ⟨n, by omega, by rw [ru_s, hq]⟩
    · rcases a7 r hr hrq hd with c | ⟨i, c1, c2⟩
      · refine Or.inl ?_
        rw [ru_n]
        · exact c
        · intro e
          rw [e, hs] at c
          exact hq (Option.some.inj c).symm
      · exact Or.inr ⟨i, by omega, by rw [ru_n _ _ (by omega)]; exact c2⟩
theorem ok_throw {x s : Nat} {u : CBu} (h : Ok x u) : Ok x (cb_throw s u) := by
  obtain ⟨sc, pl, ln, bn, n, dt, hi, sw, mi, hc, co⟩ := u
  unfold cb_throw
  dsimp only
  split
  · exact h
  · rename_i q hs
    have h0 := h
    obtain ⟨a1, a2, a3, a4, a5, a6, a7⟩ := h0
    split
    · rename_i hp
      refine ⟨a1, a2, a3, fun t r ht => a4 t r (ru_none ht).2, fun k hk => ?_, a6, fun r hr hrq hd => ?_⟩
      · have hk : k < n := hk
        omega
      · have hd : ru dt q false r = true := hd
        have hrq2 : r ≠ q := fun e => by rw [e, ru_s] at hd; cases hd
        rw [ru_n _ _ hrq2] at hd
        rcases a7 r hr hrq hd with c | ⟨i, c1, c2⟩
        · refine Or.inl ?_
          show ru ln s none (r % sc) = some r
          rw [ru_n]
          · exact c
          · intro e
            rw [e, hs] at c
            exact hrq2 (Option.some.inj c).symm
        · omega
    · rename_i hp
      split
      · rename_i hn
        have h1 := ok_old h (show 0 < n by omega)
        exact ok_sitn (s := s) (q := q) h1 hs (show n - 1 < pl by omega)
      · rename_i hn
        exact ok_sitn h hs (show n < pl by omega)
theorem throw_ln (s : Nat) (u : CBu) : cb_ln (cb_throw s u) s = none ∧ cb_sc (cb_throw s u) = cb_sc u := by
  obtain ⟨sc, pl, ln, bn, n, dt, hi, sw, mi, hc, co⟩ := u
  unfold cb_throw
  dsimp only
  split
  · rename_i h
    exact ⟨h, rfl⟩
  · split
    · exact ⟨ru_s _ _ _, rfl⟩
    · split
      · exact ⟨ru_s _ _ _, rfl⟩
      · exact ⟨ru_s _ _ _, rfl⟩
theorem ok_put {q : Nat} {w : Bool} {u : CBu} (h : Ok q u) (hq : q < 256) (hl : cb_ln u (q % cb_sc u) = none) : Ok 256 (cb_put (q % cb_sc u) q w u) := by
  obtain ⟨sc, pl, ln, bn, n, dt, hi, sw, mi, hc, co⟩ := u
  have hl : ln (q % sc) = none := hl
  obtain ⟨a1, a2, a3, a4, a5, a6, a7⟩ := h
  refine ⟨a1, a2, a3, fun t r ht => ?_, fun k hk => ?_, a6, fun r hr _ hd => ?_⟩
  · have ht : ru ln (q % sc) (some q) t = some r := ht
    unfold ru at ht
    split at ht
    · rename_i ht2
      cases ht
      exact ⟨by rw [ht2]; exact Nat.mod_lt _ (okS_lt a1).1, ht2.symm, hq, by omega⟩
    · obtain ⟨b1, b2, b3, -⟩ := a4 t r ht
      exact ⟨b1, b2, b3, by omega⟩
  · obtain ⟨b1, b2, b3⟩ := a5 k hk
    refine ⟨b1, by omega, fun e => ?_⟩
    have e : ru ln (q % sc) (some q) (bn k % sc) = some (bn k) := e
    unfold ru at e
    split at e
    · cases e
      exact b2 rfl
    · exact b3 e
  · show ru ln (q % sc) (some q) (r % sc) = some r ∨ ∃ k, k < n ∧ bn k = r
    by_cases hrq : r = q
    · exact Or.inl (by rw [hrq, ru_s])
    · have hd : (if w then ru dt q true else dt) r = true := hd
      have hd : dt r = true := by
        cases w
        · exact hd
        · have hd : ru dt q true r = true := hd
          rw [ru_n _ _ hrq] at hd
          exact hd
      rcases a7 r hr hrq hd with c | c
      · refine Or.inl ?_
        rw [ru_n]
        · exact c
        · intro e
          rw [e, hl] at c
          cases c
      · exact Or.inr c
theorem ok_acc {q : Nat} {w : Bool} {u : CBu} (h : Ok 256 u) (hq : q < 256) : Ok 256 (cb_acc q w u) := by
  obtain ⟨sc, pl, ln, bn, n, dt, hi, sw, mi, hc, co⟩ := u
  unfold cb_acc
  have h0 := h
  obtain ⟨a1, a2, a3, a4, a5, a6, a7⟩ := h0
  split
  · rename_i hln
    have hln : ln (q % sc) = some q := hln
    refine ⟨a1, a2, a3, a4, a5, a6, fun r hr hr2 hd => ?_⟩
    show ln (r % sc) = some r ∨ ∃ k, k < n ∧ bn k = r
    by_cases hrq : r = q
    · exact Or.inl (by rw [hrq]; exact hln)
    · have hd : (if w then ru dt q true else dt) r = true := hd
      cases w
      · exact a7 r hr hr2 hd
      · have hd : ru dt q true r = true := hd
        rw [ru_n _ _ hrq] at hd
        exact a7 r hr hr2 hd
  · rename_i hln
    have hln : ln (q % sc) ≠ some q := hln
    split
    · rename_i hs
      have hs : fnd (fun k => decide (bn k = q)) n = none := hs
      have h1 : Ok q (cb_missed (sc, pl, ln, bn, n, dt, hi, sw, mi, hc, co)) := ok_in (q := q) h hln (fun k hk e => by have := fnd_of_none hs k hk; simp [e] at this)
      have h2 := ok_throw (s := q % sc) h1
      obtain ⟨e1, e2⟩ := throw_ln (q % sc) (cb_missed (sc, pl, ln, bn, n, dt, hi, sw, mi, hc, co))
      have h3 := ok_put (w := w) h2 hq (by rw [e2]; exact e1)
      rw [e2] at h3
      exact h3
    · rename_i k hs
      have hs : fnd (fun k => decide (bn k = q)) n = some k := hs
      obtain ⟨hk, hb, -⟩ := fnd_of_some hs
      have h1 : Ok q (cb_leave k (cb_swapped (sc, pl, ln, bn, n, dt, hi, sw, mi, hc, co))) := ok_leave (k := k) h hk (of_decide_eq_true hb)
      have h2 := ok_throw (s := q % sc) h1
      obtain ⟨e1, e2⟩ := throw_ln (q % sc) (cb_leave k (cb_swapped (sc, pl, ln, bn, n, dt, hi, sw, mi, hc, co)))
      have h3 := ok_put (w := w) h2 hq (by rw [e2]; exact e1)
      rw [e2] at h3
      exact h3
theorem ok_of {u : CBu} (h : Ok 256 u) : cb_bd u := by
  obtain ⟨sc, pl, ln, bn, n, dt, hi, sw, mi, hc, co⟩ := u
  obtain ⟨a1, a2, a3, a4, a5, a6, a7⟩ := h
  exact ⟨a1, a2, by omega, fun s q hs => (a4 s q hs).2.2.1, fun k hk => (a5 k hk).1⟩
theorem ok_to {u : CBu} {x : Nat} (hx : 256 ≤ x) (h : Ok 256 u) : Ok x u := by
  obtain ⟨sc, pl, ln, bn, n, dt, hi, sw, mi, hc, co⟩ := u
  obtain ⟨a1, a2, a3, a4, a5, a6, a7⟩ := h
  refine ⟨a1, a2, a3, fun s q hs => ?_, fun k hk => ?_, a6, fun q hq _ => a7 q hq (by omega)⟩
  · have := a4 s q hs
    exact ⟨this.1, this.2.1, this.2.2.1, by omega⟩
  · have := a5 k hk
    exact ⟨this.1, by omega, this.2.2⟩
theorem ok_empty {s' p' : Nat} (u : CBu) (hs : s' = 1 ∨ s' = 2 ∨ s' = 4 ∨ s' = 8 ∨ s' = 16) (hp : p' ≤ 8) : Ok 256 (cb_empty s' p' u) := by
  obtain ⟨sc, pl, ln, bn, n, dt, hi, sw, mi, hc, co⟩ := u
  exact ⟨hs, hp, Nat.zero_le _, fun s q h => absurd h (by intro e; cases e), fun k hk => absurd hk (Nat.not_lt_zero _), fun i j hi => absurd hi (Nat.not_lt_zero _), fun q _ _ h => Bool.noConfusion h⟩
/-! counting -/
theorem cnt_ru (p : Nat → Bool) (q : Nat) : ∀ n, cnt (ru p q false) n + (if q < n ∧ p q = true then 1 else 0) = cnt p n
  | 0 => by rw [if_neg (by omega)]; rfl
  | n + 1 => by
    have ih := cnt_ru p q n
    by_cases hq : q = n
    · subst hq
      rw [if_neg (by omega)] at ih
      rw [cnt_n (ru_s p q false)]
      by_cases hp : p q = true
      · rw [if_pos ⟨by omega, hp⟩, cnt_s hp]
        omega
      · rw [if_neg (fun e => hp e.2), cnt_n (Bool.eq_false_iff.mpr hp)]
        omega
    · have e : ru p q false n = p n := ru_n p false (by omega)
      have ed : (q < n + 1 ∧ p q = true) ↔ (q < n ∧ p q = true) := ⟨fun h => ⟨by omega, h.2⟩, fun h => ⟨by omega, h.2⟩⟩
      have ee : (if q < n + 1 ∧ p q = true then 1 else 0) = (if q < n ∧ p q = true then 1 else 0) := by
        by_cases hx : q < n ∧ p q = true
        · rw [if_pos hx, if_pos (ed.mpr hx)]
        · rw [if_neg hx, if_neg (fun e => hx (ed.mp e))]
      rw [ee]
      by_cases hp : p n = true
      · rw [cnt_s (e.trans hp), cnt_s hp]
        omega
      · have hp := Bool.eq_false_iff.mpr hp
        rw [cnt_n (e.trans hp), cnt_n hp]
        omega
theorem cnt_congr {p q : Nat → Bool} : ∀ {n : Nat}, (∀ j, j < n → p j = q j) → cnt p n = cnt q n
  | 0, _ => rfl
  | n + 1, h => by
    unfold cnt
    rw [cnt_congr (n := n) (fun j hj => h j (by omega)), h n (by omega)]
theorem cnt_zero {p : Nat → Bool} : ∀ {n : Nat}, (∀ j, j < n → p j = false) → cnt p n = 0
  | 0, _ => rfl
  | n + 1, h => by rw [cnt_n (h n (by omega)), cnt_zero (fun j hj => h j (by omega))]
/-! all home -/
def BhI (N : Nat) (u0 u : CBu) : Prop := match u0, u with
  | (sc1, pl1, ln1, bn1, n1, dt1, hi1, sw1, mi1, hc1, co1), (sc, pl, ln, bn, n, dt, hi, sw, mi, hc, co) => (sc = sc1 ∧ pl = pl1 ∧ ln = ln1 ∧ bn = bn1 ∧ n = n1 ∧ hi = hi1 ∧ sw = sw1 ∧ mi = mi1) ∧ hc + nI (cnt dt N) = hc1 + nI (cnt dt1 N) ∧ co + nI (10 * cnt dt N) = co1 + nI (10 * cnt dt1 N) ∧ (∀ j, N ≤ j → dt j = dt1 j) ∧ ∀ j, dt j = true → dt1 j = true
theorem bhi_rf (N : Nat) (u : CBu) : BhI N u u := by
  obtain ⟨sc, pl, ln, bn, n, dt, hi, sw, mi, hc, co⟩ := u
  exact ⟨⟨rfl, rfl, rfl, rfl, rfl, rfl, rfl, rfl⟩, rfl, rfl, fun _ _ => rfl, fun _ h => h⟩
theorem bhi_bh {N q : Nat} {u0 u : CBu} (hq : q < N) (h : BhI N u0 u) : BhI N u0 (cb_bh q u) := by
  obtain ⟨sc1, pl1, ln1, bn1, n1, dt1, hi1, sw1, mi1, hc1, co1⟩ := u0
  obtain ⟨sc, pl, ln, bn, n, dt, hi, sw, mi, hc, co⟩ := u
  obtain ⟨h1, h2, h3, h4, h5⟩ := h
  have e := cnt_ru dt q N
  refine ⟨h1, ?_, ?_, fun j hj => ?_, fun j hj => ?_⟩
  · show hc + cI (dt q) 1 + nI (cnt (ru dt q false) N) = hc1 + nI (cnt dt1 N)
    rw [← h2, ← e]
    by_cases hd : dt q = true
    · rw [if_pos ⟨hq, hd⟩, hd, cI_t, Int32.add_assoc, nI_succ, Int32.add_comm 1]
    · rw [if_neg (fun e => hd e.2), Bool.eq_false_iff.mpr hd, cI_f, Int32.add_zero]
      rfl
  · show co + cI (dt q) 10 + nI (10 * cnt (ru dt q false) N) = co1 + nI (10 * cnt dt1 N)
    rw [← h3, ← e]
    by_cases hd : dt q = true
    · rw [if_pos ⟨hq, hd⟩, hd, cI_t, Int32.add_assoc, Nat.mul_add, show 10 * 1 = 10 from rfl, ← nI_add, Int32.add_comm 10]
      rfl
    · rw [if_neg (fun e => hd e.2), Bool.eq_false_iff.mpr hd, cI_f, Int32.add_zero]
      rfl
  · show ru dt q false j = dt1 j
    rw [ru_n _ _ (by omega)]
    exact h4 j hj
  · have hj : ru dt q false j = true := hj
    unfold ru at hj
    split at hj
    · cases hj
    · exact h5 j hj
theorem bh_dt {q j : Nat} {u : CBu} (h : cb_dt (cb_bh q u) j = true) : cb_dt u j = true ∧ j ≠ q := by
  obtain ⟨sc, pl, ln, bn, n, dt, hi, sw, mi, hc, co⟩ := u
  have hj : ru dt q false j = true := h
  unfold ru at hj
  split at hj
  · cases hj
  · rename_i hn
    exact ⟨hj, hn⟩
theorem bhi_S {N : Nat} {u : CBu} (hN : ∀ s q, cb_ln u s = some q → q < N) : ∀ i, BhI N u (cb_bhS i u) ∧ (∀ s q, s < i → cb_ln u s = some q → cb_dt (cb_bhS i u) q = false) ∧ ∀ j, cb_dt (cb_bhS i u) j = true → cb_dt u j = true
  | 0 => ⟨bhi_rf N u, fun s q hs => absurd hs (Nat.not_lt_zero s), fun j h => h⟩
  | i + 1 => by
    obtain ⟨h1, h2, h3⟩ := bhi_S hN i
    unfold cb_bhS
    cases hl : cb_ln u i with
    | none =>
      dsimp only
      refine ⟨h1, fun s q hs hq => ?_, h3⟩
      have hsi : s ≠ i := by
        intro e
        rw [e, hl] at hq
        cases hq
      exact h2 s q (by omega) hq
    | some r =>
      dsimp only
      refine ⟨bhi_bh (hN i r hl) h1, fun s q hs hq => ?_, fun j hj => h3 j (bh_dt hj).1⟩
      cases hd : cb_dt (cb_bh r (cb_bhS i u)) q with
      | false => rfl
      | true =>
        obtain ⟨e1, e2⟩ := bh_dt hd
        have hsi : s ≠ i := by
          intro e
          rw [e, hl] at hq
          exact e2 (Option.some.inj hq).symm
        rw [h2 s q (by omega) hq] at e1
        cases e1
theorem bhi_B {N : Nat} {u v : CBu} {b : Nat → Nat} (h : BhI N u v) : ∀ j, (∀ k, k < j → b k < N) → BhI N u (cb_bhB b j v) ∧ ∀ q, cb_dt (cb_bhB b j v) q = true → cb_dt v q = true ∧ ∀ k, k < j → b k ≠ q
  | 0, _ => ⟨h, fun q hq => ⟨hq, fun k hk => absurd hk (Nat.not_lt_zero k)⟩⟩
  | j + 1, hb => by
    obtain ⟨h1, h2⟩ := bhi_B (b := b) h j (fun k hk => hb k (by omega))
    refine ⟨bhi_bh (hb j (by omega)) h1, fun q hq => ?_⟩
    obtain ⟨e1, e2⟩ := bh_dt hq
    obtain ⟨e3, e4⟩ := h2 q e1
    refine ⟨e3, fun k hk => ?_⟩
    by_cases hkj : k = j
    · rw [hkj]
      exact fun e => e2 e.symm
    · exact e4 k (by omega)
theorem bring_I {N : Nat} {u : CBu} (h : Ok N u) (hN : N = 256) : BhI N u (cb_bring u) ∧ ∀ j, j < N → cb_dt (cb_bring u) j = false := by
  obtain ⟨sc, pl, ln, bn, n, dt, hi, sw, mi, hc, co⟩ := u
  obtain ⟨a1, a2, a3, a4, a5, a6, a7⟩ := h
  obtain ⟨s1, s2, s3⟩ := bhi_S (N := N) (u := (sc, pl, ln, bn, n, dt, hi, sw, mi, hc, co)) (fun s q hs => by have := (a4 s q hs).2.2.1; omega) sc
  obtain ⟨b1, b2⟩ := bhi_B (b := bn) s1 n (fun k hk => by have := (a5 k hk).1; omega)
  refine ⟨b1, fun j hj => ?_⟩
  cases hd : cb_dt (cb_bring (sc, pl, ln, bn, n, dt, hi, sw, mi, hc, co)) j with
  | false => rfl
  | true =>
    have hd : cb_dt (cb_bhB bn n (cb_bhS sc (sc, pl, ln, bn, n, dt, hi, sw, mi, hc, co))) j = true := hd
    obtain ⟨e1, e2⟩ := b2 j hd
    rcases a7 j (by omega) (by omega) (s3 j e1) with c | ⟨k, c1, c2⟩
    · rw [s2 (j % sc) j (Nat.mod_lt _ (okS_lt a1).1) c] at e1
      cases e1
    · exact absurd c2 (e2 k c1)
theorem ok_BhI {N : Nat} {u v : CBu} (hN : N = 256) (h0 : Ok N u) (h : BhI N u v) (hd : ∀ j, j < N → cb_dt v j = false) : Ok N v := by
  obtain ⟨sc1, pl1, ln1, bn1, n1, dt1, hi1, sw1, mi1, hc1, co1⟩ := u
  obtain ⟨sc, pl, ln, bn, n, dt, hi, sw, mi, hc, co⟩ := v
  obtain ⟨⟨a1, a2, a3, a4, a5, a6, a7, a8⟩, -⟩ := h
  subst a1; subst a2; subst a3; subst a4; subst a5
  obtain ⟨b1, b2, b3, b4, b5, b6, b7⟩ := h0
  refine ⟨b1, b2, b3, b4, b5, b6, fun q hq _ hq2 => ?_⟩
  have hd : dt q = false := hd q (by omega)
  rw [hd] at hq2
  cases hq2
end
section
/-! counting one to one; where lines are; what an access costs and counts -/
theorem cnt_inj {N : Nat} {f : Nat → Option Nat} : ∀ (m : Nat) (p : Nat → Bool), (∀ s q, s < m → f s = some q → q < N) → (∀ s t q, s < m → t < m → f s = some q → f t = some q → s = t) → (∀ q, q < N → (p q = true ↔ ∃ s, s < m ∧ f s = some q)) → cnt p N = cnt (fun s => (f s).isSome) m
  | 0, p, _, _, h => cnt_zero (fun j hj => by
      cases hp : p j with
      | false => rfl
      | true =>
        obtain ⟨s, hs, _⟩ := (h j hj).mp hp
        exact absurd hs (Nat.not_lt_zero s))
  | m + 1, p, hN, hi, h => by
    cases hf : f m with
    | none =>
      have ih := cnt_inj m p (fun s q hs => hN s q (by omega)) (fun s t q hs ht => hi s t q (by omega) (by omega)) (fun q hq => by
        rw [h q hq]
        refine ⟨fun ⟨s, hs, e⟩ => ?_, fun ⟨s, hs, e⟩ => ⟨s, by omega, e⟩⟩
        have hsm : s ≠ m := by
          intro e2
          rw [e2, hf] at e
          cases e
        exact ⟨s, by omega, e⟩)
      rw [ih, cnt_n (p := fun s => (f s).isSome) (n := m) (show (f m).isSome = false by rw [hf]; rfl)]
    | some q0 =>
      have h0 : q0 < N := hN m q0 (by omega) hf
      have hp0 : p q0 = true := (h q0 h0).mpr ⟨m, by omega, hf⟩
      have ih := cnt_inj m (ru p q0 false) (fun s q hs => hN s q (by omega)) (fun s t q hs ht => hi s t q (by omega) (by omega)) (fun q hq => by
        by_cases hqq : q = q0
        · subst hqq
          rw [ru_s]
          refine ⟨fun e => Bool.noConfusion e, fun ⟨s, hs, e⟩ => ?_⟩
          have := hi s m q (by omega) (by omega) e hf
          omega
        · rw [ru_n p false hqq, h q hq]
          refine ⟨fun ⟨s, hs, e⟩ => ?_, fun ⟨s, hs, e⟩ => ⟨s, by omega, e⟩⟩
          have hsm : s ≠ m := by
            intro e2
            rw [e2, hf] at e
            exact hqq (Option.some.inj e).symm
          exact ⟨s, by omega, e⟩)
      have e := cnt_ru p q0 N
      rw [if_pos ⟨h0, hp0⟩] at e
      rw [cnt_s (p := fun s => (f s).isSome) (n := m) (show (f m).isSome = true by rw [hf]; rfl), ← ih]
      exact e.symm
theorem cnt_all {p : Nat → Bool} : ∀ {n : Nat}, (∀ j, j < n → p j = true) → cnt p n = n
  | 0, _ => rfl
  | n + 1, h => by rw [cnt_s (h n (by omega)), cnt_all (fun j hj => h j (by omega))]
theorem cnt_or {p q r : Nat → Bool} : ∀ {n : Nat}, (∀ j, j < n → p j = true → q j = true ∨ r j = true) → cnt p n ≤ cnt q n + cnt r n
  | 0, _ => Nat.le_refl _
  | n + 1, h => by
    have ih := cnt_or (p := p) (q := q) (r := r) (n := n) (fun j hj => h j (by omega))
    have h1 := h n (by omega)
    unfold cnt
    cases hp : p n <;> cases hq : q n <;> cases hr : r n <;> simp_all <;> omega
theorem fnd_ex {p : Nat → Bool} {n : Nat} : (fnd p n).isSome = true ↔ ∃ k, k < n ∧ p k = true := by
  cases h : fnd p n with
  | none =>
    refine ⟨fun e => Bool.noConfusion e, fun ⟨k, hk, hp⟩ => ?_⟩
    rw [fnd_of_none h k hk] at hp
    cases hp
  | some i =>
    obtain ⟨h1, h2, -⟩ := fnd_of_some h
    exact ⟨fun _ => ⟨i, h1, h2⟩, fun _ => rfl⟩
theorem where_eq (q : Nat) {sc : Nat} {pl : Nat} {ln : Nat → Option Nat} {bn : Nat → Nat} {n : Nat} {dt : Nat → Bool} {hi : Int32} {sw : Int32} {mi : Int32} {hc : Int32} {co : Int32} : cb_where q (sc, pl, ln, bn, n, dt, hi, sw, mi, hc, co) = if ln (q % sc) = some q then 1 else if (fnd (fun k => decide (bn k = q)) n).isSome = true then 2 else 0 := rfl
theorem where_1 {q : Nat} {u : CBu} : cb_where q u = 1 ↔ cb_ln u (q % cb_sc u) = some q := by
  obtain ⟨sc, pl, ln, bn, n, dt, hi, sw, mi, hc, co⟩ := u
  rw [where_eq]
  show _ ↔ ln (q % sc) = some q
  by_cases h : ln (q % sc) = some q
  · rw [if_pos h]
    exact ⟨fun _ => h, fun _ => rfl⟩
  · rw [if_neg h]
    refine ⟨fun e => ?_, fun e => absurd e h⟩
    by_cases h2 : (fnd (fun k => decide (bn k = q)) n).isSome = true
    · rw [if_pos h2] at e
      exact absurd e (by decide)
    · rw [if_neg h2] at e
      exact absurd e (by decide)
theorem where_2 {q : Nat} {u : CBu} (h : Ok 256 u) : cb_where q u = 2 ↔ ∃ k, k < u.2.2.2.2.1 ∧ u.2.2.2.1 k = q := by
  obtain ⟨sc, pl, ln, bn, n, dt, hi, sw, mi, hc, co⟩ := u
  obtain ⟨a1, a2, a3, a4, a5, a6, a7⟩ := h
  rw [where_eq]
  show _ ↔ ∃ k, k < n ∧ bn k = q
  constructor
  · intro e
    by_cases h1 : ln (q % sc) = some q
    · rw [if_pos h1] at e
      exact absurd e (by decide)
    · rw [if_neg h1] at e
      by_cases h2 : (fnd (fun k => decide (bn k = q)) n).isSome = true
      · obtain ⟨k, hk, hb⟩ := fnd_ex.mp h2
        exact ⟨k, hk, of_decide_eq_true hb⟩
      · rw [if_neg h2] at e
        exact absurd e (by decide)
  · intro ⟨k, hk, hb⟩
    have h1 : ln (q % sc) ≠ some q := by
      rw [← hb]
      exact (a5 k hk).2.2
    have h2 : (fnd (fun k => decide (bn k = q)) n).isSome = true := fnd_ex.mpr ⟨k, hk, decide_eq_true hb⟩
    rw [if_neg h1, if_pos h2]
theorem where_lt (q : Nat) (u : CBu) : cb_where q u = 0 ∨ cb_where q u = 1 ∨ cb_where q u = 2 := by
  obtain ⟨sc, pl, ln, bn, n, dt, hi, sw, mi, hc, co⟩ := u
  rw [where_eq]
  by_cases h : ln (q % sc) = some q
  · rw [if_pos h]
    exact Or.inr (Or.inl rfl)
  · rw [if_neg h]
    by_cases h2 : (fnd (fun k => decide (bn k = q)) n).isSome = true
    · rw [if_pos h2]
      exact Or.inr (Or.inr rfl)
    · rw [if_neg h2]
      exact Or.inl rfl
theorem where_dt {q : Nat} {u : CBu} (h : Ok 256 u) (hq : q < 256) (hd : cb_dt u q = true) : cb_where q u = 1 ∨ cb_where q u = 2 := by
  have h0 := h
  obtain ⟨sc, pl, ln, bn, n, dt, hi, sw, mi, hc, co⟩ := u
  obtain ⟨a1, a2, a3, a4, a5, a6, a7⟩ := h
  rcases a7 q hq (by omega) hd with c | c
  · exact Or.inl (where_1.mpr c)
  · exact Or.inr ((where_2 h0).mpr c)
theorem where_0 {q : Nat} {u : CBu} (h : Ok 256 u) (hq : q < 256) (h0 : cb_where q u = 0) : cb_dt u q = false := by
  cases hd : cb_dt u q with
  | false => rfl
  | true => rcases where_dt h hq hd with c | c <;> omega
theorem cnt_w1 {u : CBu} (h : Ok 256 u) : cnt (fun q => decide (cb_where q u = 1)) 256 = cnt (fun s => (cb_ln u s).isSome) u.1 := by
  obtain ⟨sc, pl, ln, bn, n, dt, hi, sw, mi, hc, co⟩ := u
  obtain ⟨a1, a2, a3, a4, a5, a6, a7⟩ := h
  refine cnt_inj (f := ln) sc _ (fun s q _ hs => (a4 s q hs).2.2.1) (fun s t q _ _ hs ht => ?_) (fun q hq => ?_)
  · have e1 := (a4 s q hs).2.1
    have e2 := (a4 t q ht).2.1
    omega
  · refine ⟨fun e => ⟨q % sc, Nat.mod_lt _ (okS_lt a1).1, where_1.mp (of_decide_eq_true e)⟩, fun ⟨s, hs, e⟩ => decide_eq_true (where_1.mpr ?_)⟩
    show ln (q % sc) = some q
    rw [(a4 s q e).2.1]
    exact e
theorem cnt_w2 {u : CBu} (h : Ok 256 u) : cnt (fun q => decide (cb_where q u = 2)) 256 = u.2.2.2.2.1 := by
  have h0 := h
  obtain ⟨sc, pl, ln, bn, n, dt, hi, sw, mi, hc, co⟩ := u
  obtain ⟨a1, a2, a3, a4, a5, a6, a7⟩ := h
  have e := cnt_inj (N := 256) (f := fun k => some (bn k)) n (fun q => decide (cb_where q (sc, pl, ln, bn, n, dt, hi, sw, mi, hc, co) = 2)) (fun s q hs e => by have := (a5 s hs).1; rw [← Option.some.inj e]; exact this) (fun s t q hs ht e1 e2 => a6 s t hs ht ((Option.some.inj e1).trans (Option.some.inj e2).symm)) (fun q hq => by
    refine ⟨fun e => ?_, fun ⟨k, hk, e⟩ => decide_eq_true ((where_2 h0).mpr ⟨k, hk, Option.some.inj e⟩)⟩
    obtain ⟨k, hk, hb⟩ := (where_2 h0).mp (of_decide_eq_true e)
    exact ⟨k, hk, congrArg some hb⟩)
  rw [e]
  exact cnt_all (fun j _ => rfl)
theorem dirty_le {u : CBu} (h : Ok 256 u) : cb_dirty u ≤ cb_lines u := by
  have e1 := cnt_w1 h
  have e2 := cnt_w2 h
  have e3 : cnt (cb_dt u) 256 ≤ cnt (fun q => decide (cb_where q u = 1)) 256 + cnt (fun q => decide (cb_where q u = 2)) 256 := cnt_or (fun j hj hd => by
    rcases where_dt h hj hd with c | c
    · exact Or.inl (decide_eq_true c)
    · exact Or.inr (decide_eq_true c))
  rw [e1, e2] at e3
  obtain ⟨sc, pl, ln, bn, n, dt, hi, sw, mi, hc, co⟩ := u
  show cnt dt 256 ≤ n + cnt (fun s => (ln s).isSome) sc
  have e3 : cnt dt 256 ≤ cnt (fun s => (ln s).isSome) sc + n := e3
  omega
/-! what is counted -/
abbrev cb_hi (u : CBu) : Int32 := u.2.2.2.2.2.2.1
abbrev cb_sw (u : CBu) : Int32 := u.2.2.2.2.2.2.2.1
abbrev cb_mi (u : CBu) : Int32 := u.2.2.2.2.2.2.2.2.1
abbrev la_cnt (la : LAu) : Nat := la.2.2.1
def CF (u : CBu) : Prop := cb_co u = cb_hi u + nI 3 * cb_sw u + nI 20 * cb_mi u + nI 10 * cb_hc u
/-- from u to v: d more cost, a more accesses; what is counted is what is done -/
def Gr (u v : CBu) (d a : Nat) : Prop := cb_co v = cb_co u + nI d ∧ cb_hi v + cb_sw v + cb_mi v = cb_hi u + cb_sw u + cb_mi u + nI a ∧ (CF u → CF v)
theorem arc32 (a b c : Int32) : a + b + c = a + c + b := by rw [Int32.add_assoc, Int32.add_comm b c, ← Int32.add_assoc]
theorem add_nI0 (y : Int32) : y + nI 0 = y := Int32.add_zero y
theorem Gr.same {u v : CBu} (h1 : cb_co v = cb_co u) (h2 : cb_hi v = cb_hi u) (h3 : cb_sw v = cb_sw u) (h4 : cb_mi v = cb_mi u) (h5 : cb_hc v = cb_hc u) : Gr u v 0 0 := by
  refine ⟨by rw [h1, add_nI0], by rw [h2, h3, h4, add_nI0], fun h => ?_⟩
  unfold CF at h ⊢
  rw [h1, h2, h3, h4, h5]
  exact h
theorem Gr.rf (u : CBu) : Gr u u 0 0 := Gr.same rfl rfl rfl rfl rfl
theorem Gr.tr {u v w : CBu} {d a d2 a2 : Nat} (h : Gr u v d a) (g : Gr v w d2 a2) : Gr u w (d + d2) (a + a2) := by
  obtain ⟨h1, h2, h3⟩ := h
  obtain ⟨g1, g2, g3⟩ := g
  refine ⟨?_, ?_, fun e => g3 (h3 e)⟩
  · rw [g1, h1, Int32.add_assoc, nI_add]
  · rw [g2, h2, Int32.add_assoc, nI_add]
theorem gr_bh (q : Nat) (u : CBu) : ∃ d, d ≤ 10 ∧ Gr u (cb_bh q u) d 0 := by
  obtain ⟨sc, pl, ln, bn, n, dt, hi, sw, mi, hc, co⟩ := u
  cases h : dt q with
  | false =>
    refine ⟨0, by omega, Gr.same ?_ rfl rfl rfl ?_⟩
    · show co + cI (dt q) 10 = co
      rw [h, cI_f, Int32.add_zero]
    · show hc + cI (dt q) 1 = hc
      rw [h, cI_f, Int32.add_zero]
  | true =>
    refine ⟨10, by omega, ?_, ?_, fun e => ?_⟩
    · show co + cI (dt q) 10 = co + nI 10
      rw [h, cI_t]
      rfl
    · show hi + sw + mi = hi + sw + mi + nI 0
      rw [add_nI0]
    · have e : co = hi + nI 3 * sw + nI 20 * mi + nI 10 * hc := e
      show co + cI (dt q) 10 = hi + nI 3 * sw + nI 20 * mi + nI 10 * (hc + cI (dt q) 1)
      rw [h, cI_t, cI_t, Int32.mul_add, Int32.mul_one, e, ← Int32.add_assoc]
      rfl
theorem gr_throw (s : Nat) (u : CBu) : ∃ d, d ≤ 10 ∧ Gr u (cb_throw s u) d 0 := by
  obtain ⟨sc, pl, ln, bn, n, dt, hi, sw, mi, hc, co⟩ := u
  unfold cb_throw
  dsimp only
  split
  · exact ⟨0, by omega, Gr.rf _⟩
  · rename_i q hs
    have h0 : Gr (sc, pl, ln, bn, n, dt, hi, sw, mi, hc, co) (sc, pl, ru ln s none, bn, n, dt, hi, sw, mi, hc, co) 0 0 := Gr.same rfl rfl rfl rfl rfl
    split
    · obtain ⟨d, hd, h1⟩ := gr_bh q (sc, pl, ru ln s none, bn, n, dt, hi, sw, mi, hc, co)
      have h2 := h0.tr h1
      rw [Nat.zero_add] at h2
      exact ⟨d, hd, h2⟩
    · split
      · obtain ⟨d, hd, h1⟩ := gr_bh (bn 0) (sc, pl, ru ln s none, bn, n, dt, hi, sw, mi, hc, co)
        have h2 := h0.tr h1
        rw [Nat.zero_add] at h2
        have h3 : Gr (cb_bh (bn 0) (sc, pl, ru ln s none, bn, n, dt, hi, sw, mi, hc, co)) (cb_sit q (cb_leave 0 (cb_bh (bn 0) (sc, pl, ru ln s none, bn, n, dt, hi, sw, mi, hc, co)))) 0 0 := Gr.same rfl rfl rfl rfl rfl
        exact ⟨d, hd, h2.tr h3⟩
      · have h3 : Gr (sc, pl, ru ln s none, bn, n, dt, hi, sw, mi, hc, co) (cb_sit q (sc, pl, ru ln s none, bn, n, dt, hi, sw, mi, hc, co)) 0 0 := Gr.same rfl rfl rfl rfl rfl
        exact ⟨0, by omega, h0.tr h3⟩
theorem grc_put (s q : Nat) (w : Bool) (u : CBu) : Gr u (cb_put s q w u) 0 0 := by
  obtain ⟨sc, pl, ln, bn, n, dt, hi, sw, mi, hc, co⟩ := u
  exact Gr.same rfl rfl rfl rfl rfl
theorem gr_leave (k : Nat) (u : CBu) : Gr u (cb_leave k u) 0 0 := by
  obtain ⟨sc, pl, ln, bn, n, dt, hi, sw, mi, hc, co⟩ := u
  exact Gr.same rfl rfl rfl rfl rfl
theorem gr_hit (q : Nat) (w : Bool) (u : CBu) : Gr u (cb_hit q w u) 1 1 := by
  obtain ⟨sc, pl, ln, bn, n, dt, hi, sw, mi, hc, co⟩ := u
  refine ⟨rfl, ?_, fun e => ?_⟩
  · show hi + 1 + sw + mi = hi + sw + mi + 1
    rw [arc32 hi 1 sw, arc32 (hi + sw) 1 mi]
  · have e : co = hi + nI 3 * sw + nI 20 * mi + nI 10 * hc := e
    show co + 1 = hi + 1 + nI 3 * sw + nI 20 * mi + nI 10 * hc
    rw [arc32 hi 1, arc32 (hi + nI 3 * sw) 1, arc32 (hi + nI 3 * sw + nI 20 * mi) 1, e]
theorem gr_missed (u : CBu) : Gr u (cb_missed u) 20 1 := by
  obtain ⟨sc, pl, ln, bn, n, dt, hi, sw, mi, hc, co⟩ := u
  refine ⟨rfl, ?_, fun e => ?_⟩
  · show hi + sw + (mi + 1) = hi + sw + mi + 1
    rw [Int32.add_assoc (hi + sw) mi 1]
  · have e : co = hi + nI 3 * sw + nI 20 * mi + nI 10 * hc := e
    show co + 20 = hi + nI 3 * sw + nI 20 * (mi + 1) + nI 10 * hc
    rw [Int32.mul_add, Int32.mul_one, ← Int32.add_assoc (hi + nI 3 * sw), arc32 (hi + nI 3 * sw + nI 20 * mi) (nI 20), e]
    rfl
theorem gr_swapped (u : CBu) : Gr u (cb_swapped u) 3 1 := by
  obtain ⟨sc, pl, ln, bn, n, dt, hi, sw, mi, hc, co⟩ := u
  refine ⟨rfl, ?_, fun e => ?_⟩
  · show hi + (sw + 1) + mi = hi + sw + mi + 1
    rw [← Int32.add_assoc hi sw 1, arc32 (hi + sw) 1 mi]
  · have e : co = hi + nI 3 * sw + nI 20 * mi + nI 10 * hc := e
    show co + 3 = hi + nI 3 * (sw + 1) + nI 20 * mi + nI 10 * hc
    rw [Int32.mul_add, Int32.mul_one, ← Int32.add_assoc hi, arc32 (hi + nI 3 * sw) (nI 3), arc32 (hi + nI 3 * sw + nI 20 * mi) (nI 3), e]
    rfl
theorem gr_acc (q : Nat) (w : Bool) (u : CBu) : ∃ d, 1 ≤ d ∧ d ≤ 30 ∧ Gr u (cb_acc q w u) d 1 := by
  unfold cb_acc
  split
  · exact ⟨1, by omega, by omega, gr_hit q w u⟩
  · split
    · obtain ⟨d, hd, h⟩ := gr_throw (q % cb_sc u) (cb_missed u)
      exact ⟨20 + d, by omega, by omega, ((gr_missed u).tr h).tr (grc_put _ q w _)⟩
    · rename_i k hk
      obtain ⟨d, hd, h⟩ := gr_throw (q % cb_sc u) (cb_leave k (cb_swapped u))
      exact ⟨3 + d, by omega, by omega, (((gr_swapped u).tr (gr_leave k _)).tr h).tr (grc_put _ q w _)⟩
theorem gr_walk (a : Nat) (z : Int) (u : CBu) (la : LAu) : ∀ k, ∃ d, k ≤ d ∧ d ≤ 30 * k ∧ Gr u (ob_walk a z k u la).1 d k
  | 0 => ⟨0, by omega, by omega, Gr.rf u⟩
  | k + 1 => by
    obtain ⟨d, h1, h2, h3⟩ := gr_walk a z u la k
    obtain ⟨d2, g1, g2, g3⟩ := gr_acc (adr a z k / 4) false (ob_walk a z k u la).1
    exact ⟨d + d2, by omega, by omega, h3.tr g3⟩
theorem gr_try (la : LAu) (u : CBu) : ∀ k, ∃ d, k ≤ d ∧ d ≤ 30 * k ∧ Gr u (la_try la k u) d k
  | 0 => ⟨0, by omega, by omega, Gr.rf u⟩
  | k + 1 => by
    obtain ⟨d, h1, h2, h3⟩ := gr_try la u k
    obtain ⟨d2, g1, g2, g3⟩ := gr_acc (la.1 (la_slot k la)) (la.2.1 (la_slot k la)) (la_try la k u)
    exact ⟨d + d2, by omega, by omega, h3.tr g3⟩
/-- a trial's cost, whatever was counted ahead of it -/
theorem co_trial (la : LAu) (s' p' : Nat) (u : CBu) : ∃ d, la_cnt la ≤ d ∧ d ≤ 30 * la_cnt la ∧ cb_co (la_trial la s' p' u) - cb_co u = nI d := by
  obtain ⟨d, h1, h2, h3, -⟩ := gr_try la (cb_empty s' p' u) (la_cnt la)
  refine ⟨d, h1, h2, ?_⟩
  have h3 : cb_co (la_trial la s' p' u) = cb_co (cb_empty s' p' u) + nI d := h3
  have h4 : cb_co (cb_empty s' p' u) = cb_co u := by
    obtain ⟨sc, pl, ln, bn, n, dt, hi, sw, mi, hc, co⟩ := u
    rfl
  rw [h3, h4, Int32.add_comm (cb_co u), Int32.add_sub_cancel]
theorem best_le (la : LAu) (s' : Nat) (u : CBu) : ∀ k, (la_best la s' k u).1 ≤ k
  | 0 => Nat.le_refl _
  | k + 1 => by
    have ih := best_le la s' u k
    unfold la_best
    generalize la_best la s' k u = r at ih
    obtain ⟨b, c, t⟩ := r
    have ih : b ≤ k := ih
    dsimp only
    split
    · exact Nat.le_refl _
    · exact Nat.le_succ_of_le ih
end
section
/-! what the law keeps true from turn to turn -/
def ads (s : Nat) : Nat := 128 * (s / 8) + s % 8 + s / 8
theorem ads_lt {s : Nat} (h : s < 64) : ads s < 1024 := by
  unfold ads
  omega
theorem ads_inj {s t : Nat} (h : ads s = ads t) : s = t := by
  unfold ads at h
  omega
def Num (C A : Nat) (u : CBu) (la : LAu) : Prop := Ok 256 u ∧ la_bd la ∧ CF u ∧ ∃ c a : Nat, cb_co u = nI c ∧ c ≤ C ∧ cb_hi u + cb_sw u + cb_mi u = nI a ∧ a ≤ A ∧ la_cnt la = min a 150
theorem Num.le {C A C2 A2 : Nat} {u : CBu} {la : LAu} (h : Num C A u la) (hC : C ≤ C2) (hA : A ≤ A2) : Num C2 A2 u la := by
  obtain ⟨h1, h2, h3, c, a, h4, h5, h6, h7, h8⟩ := h
  exact ⟨h1, h2, h3, c, a, h4, by omega, h6, by omega, h8⟩
theorem Num.gr {C A d a : Nat} {u v : CBu} {la lb : LAu} (h : Num C A u la) (g : Gr u v d a) (hv : Ok 256 v) (hl : la_bd lb) (hc : ∀ n, la_cnt la = min n 150 → la_cnt lb = min (n + a) 150) : Num (C + d) (A + a) v lb := by
  obtain ⟨h1, h2, h3, c, n, h4, h5, h6, h7, h8⟩ := h
  obtain ⟨g1, g2, g3⟩ := g
  refine ⟨hv, hl, g3 h3, c + d, n + a, ?_, by omega, ?_, by omega, hc n h8⟩
  · rw [g1, h4, nI_add]
  · rw [g2, h6, nI_add]
theorem cnt_add {q n : Nat} {w : Bool} {la : LAu} (h : la_cnt la = min n 150) : la_cnt (la_add q w la) = min (n + 1) 150 := by
  obtain ⟨ll, lw, lc, lx⟩ := la
  have h : lc = min n 150 := h
  show (if lc < 150 then lc + 1 else lc) = min (n + 1) 150
  by_cases hl : lc < 150
  · rw [if_pos hl]
    omega
  · rw [if_neg hl]
    omega
theorem num_acc {C A q : Nat} {w : Bool} {u : CBu} {la : LAu} (h : Num C A u la) (hq : q < 256) : Num (C + 30) (A + 1) (cb_acc q w u) (la_add q w la) := by
  obtain ⟨d, d1, d2, g⟩ := gr_acc q w u
  exact (h.gr g (ok_acc h.1 hq) (la_bd_add w hq h.2.1) (fun n hn => cnt_add hn)).le (by omega) (Nat.le_refl _)
theorem num_walk {C A a : Nat} {z : Int} {u : CBu} {la : LAu} (h : Num C A u la) (ha : a < 1024) : ∀ k, Num (C + 30 * k) (A + k) (ob_walk a z k u la).1 (ob_walk a z k u la).2
  | 0 => h
  | k + 1 => (num_acc (num_walk (z := z) h ha k) (by have := adr_lt z ha k; omega)).le (by omega) (by omega)
theorem num_throw {C A s : Nat} {u : CBu} {la : LAu} (h : Num C A u la) : Num (C + 10) A (cb_throw s u) la := by
  obtain ⟨d, d1, g⟩ := gr_throw s u
  exact (h.gr g (ok_throw h.1) h.2.1 (fun n hn => hn)).le (by omega) (Nat.le_refl _)
theorem num_empty {C A s' p' : Nat} {u : CBu} {la : LAu} (h : Num C A u la) (hs : s' = 1 ∨ s' = 2 ∨ s' = 4 ∨ s' = 8 ∨ s' = 16) (hp : p' ≤ 8) : Num C A (cb_empty s' p' u) la := by
  have g : Gr u (cb_empty s' p' u) 0 0 := by
    obtain ⟨sc, pl, ln, bn, n, dt, hi, sw, mi, hc, co⟩ := u
    exact Gr.same rfl rfl rfl rfl rfl
  exact h.gr g (ok_empty u hs hp) h.2.1 (fun n hn => hn)
/-! all brought home -/
theorem bring_all {N : Nat} {u : CBu} (h : Ok N u) (hN : N = 256) : cb_hc (cb_bring u) = cb_hc u + nI (cnt (cb_dt u) N) ∧ Gr u (cb_bring u) (10 * cnt (cb_dt u) N) 0 ∧ cnt (cb_dt (cb_bring u)) N = 0 ∧ Ok N (cb_bring u) ∧ ∀ j, j < N → cb_dt (cb_bring u) j = false := by
  obtain ⟨h1, h2⟩ := bring_I h hN
  have h3 := ok_BhI hN h h1 h2
  have h4 : cnt (cb_dt (cb_bring u)) N = 0 := cnt_zero h2
  refine ⟨?_, ?_, h4, h3, h2⟩
  · generalize cb_bring u = v at h1 h4
    obtain ⟨sc1, pl1, ln1, bn1, n1, dt1, hi1, sw1, mi1, hc1, co1⟩ := u
    obtain ⟨sc, pl, ln, bn, n, dt, hi, sw, mi, hc, co⟩ := v
    obtain ⟨-, b1, -⟩ := h1
    have h4 : cnt dt N = 0 := h4
    rw [h4, add_nI0] at b1
    exact b1
  · generalize cb_bring u = v at h1 h4
    obtain ⟨sc1, pl1, ln1, bn1, n1, dt1, hi1, sw1, mi1, hc1, co1⟩ := u
    obtain ⟨sc, pl, ln, bn, n, dt, hi, sw, mi, hc, co⟩ := v
    obtain ⟨⟨a1, a2, a3, a4, a5, a6, a7, a8⟩, b1, b2, -⟩ := h1
    have h4 : cnt dt N = 0 := h4
    rw [h4, add_nI0] at b1
    rw [h4, Nat.mul_zero, add_nI0] at b2
    subst a6
    subst a7
    subst a8
    refine ⟨b2, (add_nI0 _).symm, fun e => ?_⟩
    have e : co1 = hi + nI 3 * sw + nI 20 * mi + nI 10 * hc1 := e
    show co = hi + nI 3 * sw + nI 20 * mi + nI 10 * hc
    rw [b2, b1, Int32.mul_add, pk_mul, e, ← Int32.add_assoc]
theorem dirty_eq (u : CBu) : cb_dirty u = cnt (cb_dt u) 256 := rfl
theorem bring_law {u : CBu} (h : Ok 256 u) : cb_hc (cb_bring u) - cb_hc u = nI (cb_dirty u) ∧ cb_dirty (cb_bring u) = 0 ∧ cb_co (cb_bring u) = cb_co u + nI (10 * cb_dirty u) := by
  obtain ⟨h1, ⟨h2, -⟩, h3, -⟩ := bring_all h rfl
  rw [dirty_eq, dirty_eq]
  refine ⟨?_, h3, h2⟩
  rw [h1, Int32.add_comm (cb_hc u), Int32.add_sub_cancel]
theorem num_bring {C A : Nat} {u : CBu} {la : LAu} (h : Num C A u la) : Num (C + 2560) A (cb_bring u) la := by
  obtain ⟨-, g, -, hv, -⟩ := bring_all h.1 rfl
  have hc := cnt_le (cb_dt u) 256
  exact (h.gr g hv h.2.1 (fun n hn => hn)).le (by omega) (Nat.le_refl _)
/-! one access: where its line is then -/
theorem acc_in (q : Nat) (w : Bool) (u : CBu) : cb_where q (cb_acc q w u) = 1 := by
  refine where_1.mpr ?_
  unfold cb_acc
  split
  · rename_i h
    obtain ⟨sc, pl, ln, bn, n, dt, hi, sw, mi, hc, co⟩ := u
    exact h
  · split
    · have e := (throw_ln (q % cb_sc u) (cb_missed u)).2
      have e2 : cb_sc (cb_missed u) = cb_sc u := by
        obtain ⟨sc, pl, ln, bn, n, dt, hi, sw, mi, hc, co⟩ := u
        rfl
      rw [e2] at e
      generalize cb_throw (q % cb_sc u) (cb_missed u) = v at e ⊢
      obtain ⟨sc, pl, ln, bn, n, dt, hi, sw, mi, hc, co⟩ := v
      have e : sc = cb_sc u := e
      show ru ln (q % cb_sc u) (some q) (q % sc) = some q
      rw [e, ru_s]
    · rename_i k hk
      have e := (throw_ln (q % cb_sc u) (cb_leave k (cb_swapped u))).2
      have e2 : cb_sc (cb_leave k (cb_swapped u)) = cb_sc u := by
        obtain ⟨sc, pl, ln, bn, n, dt, hi, sw, mi, hc, co⟩ := u
        rfl
      rw [e2] at e
      generalize cb_throw (q % cb_sc u) (cb_leave k (cb_swapped u)) = v at e ⊢
      obtain ⟨sc, pl, ln, bn, n, dt, hi, sw, mi, hc, co⟩ := v
      have e : sc = cb_sc u := e
      show ru ln (q % cb_sc u) (some q) (q % sc) = some q
      rw [e, ru_s]
theorem acc_dirty (q : Nat) (u : CBu) : cb_dt (cb_acc q true u) q = true := by
  unfold cb_acc
  split
  · obtain ⟨sc, pl, ln, bn, n, dt, hi, sw, mi, hc, co⟩ := u
    exact ru_s _ _ _
  · split
    · generalize cb_throw (q % cb_sc u) (cb_missed u) = v
      obtain ⟨sc, pl, ln, bn, n, dt, hi, sw, mi, hc, co⟩ := v
      exact ru_s _ _ _
    · rename_i k hk
      generalize cb_throw (q % cb_sc u) (cb_leave k (cb_swapped u)) = v
      obtain ⟨sc, pl, ln, bn, n, dt, hi, sw, mi, hc, co⟩ := v
      exact ru_s _ _ _
theorem hi_throw (s : Nat) (u : CBu) : cb_hi (cb_throw s u) = cb_hi u := by
  obtain ⟨sc, pl, ln, bn, n, dt, hi, sw, mi, hc, co⟩ := u
  unfold cb_throw
  dsimp only
  split
  · rfl
  · split
    · rfl
    · split
      · rfl
      · rfl
theorem hi_hit {q : Nat} (w : Bool) {u : CBu} (h : cb_where q u = 1) : cb_hi (cb_acc q w u) = cb_hi u + nI 1 := by
  unfold cb_acc
  rw [if_pos (where_1.mp h)]
  obtain ⟨sc, pl, ln, bn, n, dt, hi, sw, mi, hc, co⟩ := u
  rfl
theorem hi_not {q : Nat} (w : Bool) {u : CBu} (h : cb_where q u ≠ 1) : cb_hi (cb_acc q w u) = cb_hi u + nI 0 := by
  rw [add_nI0]
  unfold cb_acc
  rw [if_neg (fun e => h (where_1.mpr e))]
  split
  · have e := hi_throw (q % cb_sc u) (cb_missed u)
    have e2 : cb_hi (cb_missed u) = cb_hi u := by
      obtain ⟨sc, pl, ln, bn, n, dt, hi, sw, mi, hc, co⟩ := u
      rfl
    rw [e2] at e
    rw [← e]
    generalize cb_throw (q % cb_sc u) (cb_missed u) = v
    obtain ⟨sc, pl, ln, bn, n, dt, hi, sw, mi, hc, co⟩ := v
    rfl
  · rename_i k hk
    have e := hi_throw (q % cb_sc u) (cb_leave k (cb_swapped u))
    have e2 : cb_hi (cb_leave k (cb_swapped u)) = cb_hi u := by
      obtain ⟨sc, pl, ln, bn, n, dt, hi, sw, mi, hc, co⟩ := u
      rfl
    rw [e2] at e
    rw [← e]
    generalize cb_throw (q % cb_sc u) (cb_leave k (cb_swapped u)) = v
    obtain ⟨sc, pl, ln, bn, n, dt, hi, sw, mi, hc, co⟩ := v
    rfl
/-! a line thrown by hand -/
theorem cast_pl (k : Nat) (u : CBu) : (cb_throw k u).2.1 = u.2.1 ∧ (cb_throw k u).1 = u.1 := by
  obtain ⟨sc, pl, ln, bn, n, dt, hi, sw, mi, hc, co⟩ := u
  unfold cb_throw
  dsimp only
  split
  · exact ⟨rfl, rfl⟩
  · split
    · exact ⟨rfl, rfl⟩
    · split
      · exact ⟨rfl, rfl⟩
      · exact ⟨rfl, rfl⟩
theorem cast_0 {k q : Nat} {u : CBu} (h : Ok 256 u) (hk : cb_ln u k = some q) (hp : u.2.1 = 0) : cb_where q (cb_throw k u) = 0 := by
  obtain ⟨sc, pl, ln, bn, n, dt, hi, sw, mi, hc, co⟩ := u
  obtain ⟨a1, a2, a3, a4, a5, a6, a7⟩ := h
  have hk : ln k = some q := hk
  have hp : pl = 0 := hp
  have hq := (a4 k q hk).2.1
  have hn : n = 0 := by omega
  unfold cb_throw
  dsimp only
  rw [hk]
  dsimp only
  rw [if_pos hp]
  show (if ru ln k none (q % sc) = some q then 1 else if (fnd (fun k => decide (bn k = q)) n).isSome = true then 2 else 0) = 0
  rw [hq, ru_s, hn]
  rfl
theorem cast_1 {k q : Nat} {u : CBu} (hk : cb_ln u k = some q) (hp : u.2.1 ≠ 0) : 0 < (cb_throw k u).2.2.2.2.1 ∧ (cb_throw k u).2.2.2.1 ((cb_throw k u).2.2.2.2.1 - 1 - 0) = q := by
  obtain ⟨sc, pl, ln, bn, n, dt, hi, sw, mi, hc, co⟩ := u
  have hk : ln k = some q := hk
  have hp : pl ≠ 0 := hp
  unfold cb_throw
  dsimp only
  rw [hk]
  dsimp only
  rw [if_neg hp]
  by_cases hn : pl ≤ n
  · rw [if_pos hn]
    refine ⟨Nat.succ_pos _, ?_⟩
    show ru (shl bn 0 (n - 1)) (n - 1) q (n - 1 + 1 - 1 - 0) = q
    rw [show n - 1 + 1 - 1 - 0 = n - 1 by omega, ru_s]
  · rw [if_neg hn]
    refine ⟨Nat.succ_pos _, ?_⟩
    show ru bn n q (n + 1 - 1 - 0) = q
    rw [show n + 1 - 1 - 0 = n by omega, ru_s]
theorem cast_2 {k q : Nat} {u : CBu} (h : Ok 256 u) (hk : cb_ln u k = some q) (hp : u.2.1 ≠ 0) : cb_where q (cb_throw k u) = 2 := by
  obtain ⟨h1, h2⟩ := cast_1 hk hp
  exact (where_2 (ok_throw h)).mpr ⟨_, by omega, h2⟩
/-! from turn to turn -/
def LInv (k : Nat) (wr w : Nat → Int32) (u : CBu) (la : LAu) : Prop := Num (2560 * k) (30 * k) u la ∧ ∀ s, s < 64 → w s = wr (ads s)
theorem linv_same {k : Nat} {wr w : Nat → Int32} {u : CBu} {la : LAu} (h : LInv k wr w u la) : LInv (k + 1) wr w u la := ⟨h.1.le (by omega) (by omega), h.2⟩
theorem linv_read {k q : Nat} {b : Bool} {wr w : Nat → Int32} {u : CBu} {la : LAu} (h : LInv k wr w u la) (hq : q < 256) : LInv (k + 1) wr w (cb_acc q b u) (la_add q b la) := ⟨(num_acc h.1 hq).le (by omega) (by omega), h.2⟩
theorem linv_write {k s : Nat} {v : Int32} {wr w : Nat → Int32} {u : CBu} {la : LAu} (h : LInv k wr w u la) (hs : s < 64) : LInv (k + 1) (ru wr (ads s) v) (ru w s v) (cb_acc (ads s / 4) true u) (la_add (ads s / 4) true la) := by
  have ha := ads_lt hs
  refine ⟨(num_acc h.1 (by omega)).le (by omega) (by omega), fun t ht => ?_⟩
  by_cases e : t = s
  · rw [e, ru_s, ru_s]
  · rw [ru_n w v e, ru_n wr v (fun e2 => e (ads_inj e2)), h.2 t ht]
theorem linv_walk {k a n : Nat} {z : Int} {wr w : Nat → Int32} {u : CBu} {la : LAu} (h : LInv k wr w u la) (ha : a < 1024) (hn : n ≤ 30) : LInv (k + 1) wr w (ob_walk a z n u la).1 (ob_walk a z n u la).2 := ⟨(num_walk h.1 ha n).le (by omega) (by omega), h.2⟩
theorem linv_bring {k : Nat} {wr w : Nat → Int32} {u : CBu} {la : LAu} (h : LInv k wr w u la) : LInv (k + 1) wr w (cb_bring u) la := ⟨(num_bring h.1).le (by omega) (by omega), h.2⟩
theorem linv_build {k s' p' : Nat} {wr w : Nat → Int32} {u : CBu} {la : LAu} (h : LInv k wr w u la) (hs : s' = 1 ∨ s' = 2 ∨ s' = 4 ∨ s' = 8 ∨ s' = 16) (hp : p' ≤ 8) : LInv (k + 1) wr w (cb_empty s' p' (cb_bring u)) la := ⟨(num_empty (num_bring h.1) hs hp).le (by omega) (by omega), h.2⟩
theorem linv_cast {k s : Nat} {wr w : Nat → Int32} {u : CBu} {la : LAu} (h : LInv k wr w u la) : LInv (k + 1) wr w (cb_throw s u) la := ⟨(num_throw h.1).le (by omega) (by omega), h.2⟩
theorem linv_new : LInv 0 (fun _ => 0) (fun _ => 0) cb_new la_new := by
  refine ⟨⟨⟨Or.inr (Or.inr (Or.inl rfl)), by decide, by decide, fun s q h => absurd h (by intro e; cases e), fun k hk => absurd hk (Nat.not_lt_zero _), fun i j hi => absurd hi (Nat.not_lt_zero _), fun q _ _ h => Bool.noConfusion h⟩, ⟨Nat.zero_le _, by decide, fun k _ => by show 0 < 256; decide⟩, by unfold CF; decide, 0, 0, by decide, Nat.le_refl _, by decide, Nat.le_refl _, rfl⟩, fun s _ => rfl⟩
end
section
/-! what the law's look at the whole counts -/
def lnC (u : CBu) (j : Nat) : Nat := cnt (fun s => (cb_ln u s).isSome) j
def w1C (u : CBu) (i : Nat) : Nat := cnt (fun q => decide (cb_where q u = 1)) i
def w2C (u : CBu) (i : Nat) : Nat := cnt (fun q => decide (cb_where q u = 2)) i
def dtC (u : CBu) (i : Nat) : Nat := cnt (cb_dt u) i
theorem lnC_none {u : CBu} {j : Nat} (h : cb_ln u j = none) : lnC u (j + 1) = lnC u j := by
  unfold lnC
  exact cnt_n (p := fun s => (cb_ln u s).isSome) (n := j) (show (cb_ln u j).isSome = false by rw [h]; rfl)
theorem lnC_some {u : CBu} {j q : Nat} (h : cb_ln u j = some q) : lnC u (j + 1) = lnC u j + 1 := by
  unfold lnC
  exact cnt_s (p := fun s => (cb_ln u s).isSome) (n := j) (show (cb_ln u j).isSome = true by rw [h]; rfl)
theorem w1_step {u : CBu} {i : Nat} {x y : Int32} (hx : x = if cb_where i u = 1 then 1 else 0) : y - nI (w1C u i) - x = y - nI (w1C u (i + 1)) := by
  unfold w1C
  by_cases h : cb_where i u = 1
  · rw [cnt_s (p := fun q => decide (cb_where q u = 1)) (n := i) (decide_eq_true h), hx, if_pos h, Int32.sub_sub, nI_succ]
  · rw [cnt_n (p := fun q => decide (cb_where q u = 1)) (n := i) (decide_eq_false h), hx, if_neg h, Int32.sub_zero]
theorem w2_step {u : CBu} {i : Nat} {x : Int32} (hx : x = if cb_where i u = 2 then 1 else 0) : nI (w2C u i) + x = nI (w2C u (i + 1)) := by
  unfold w2C
  by_cases h : cb_where i u = 2
  · rw [cnt_s (p := fun q => decide (cb_where q u = 2)) (n := i) (decide_eq_true h), hx, if_pos h, nI_succ]
  · rw [cnt_n (p := fun q => decide (cb_where q u = 2)) (n := i) (decide_eq_false h), hx, if_neg h, Int32.add_zero]
theorem dt_step {u : CBu} {i : Nat} {x : Int32} (hx : x = if cb_dt u i = true then 1 else 0) : nI (dtC u i) + x = nI (dtC u (i + 1)) := by
  unfold dtC
  by_cases h : cb_dt u i = true
  · rw [cnt_s (p := cb_dt u) (n := i) h, hx, if_pos h, nI_succ]
  · rw [cnt_n (p := cb_dt u) (n := i) (Bool.eq_false_iff.mpr h), hx, if_neg h, Int32.add_zero]
theorem w1_all {u : CBu} (h : Ok 256 u) : nI (lnC u u.1) - nI (w1C u 256) = 0 := by
  have e : w1C u 256 = lnC u u.1 := cnt_w1 h
  rw [e, Int32.sub_self]
theorem w1_none (u : CBu) : nI (lnC u u.1) = nI (lnC u u.1) - nI (w1C u 0) := (Int32.sub_zero _).symm
theorem w2_all {u : CBu} (h : Ok 256 u) : w2C u 256 = u.2.2.2.2.1 := cnt_w2 h
theorem dt_all (u : CBu) : dtC u 256 = cb_dirty u := by
  unfold dtC
  exact (dirty_eq u).symm
theorem lnC_le (u : CBu) (j : Nat) : lnC u j ≤ j := cnt_le _ _
theorem w2C_le (u : CBu) (j : Nat) : w2C u j ≤ j := cnt_le _ _
theorem dtC_le (u : CBu) (j : Nat) : dtC u j ≤ j := cnt_le _ _
theorem dirty_256 (u : CBu) : cb_dirty u ≤ 256 := by
  rw [dirty_eq]
  exact cnt_le _ _
theorem ok_sizes {u : CBu} (h : Ok 256 u) : (u.1 = 1 ∨ u.1 = 2 ∨ u.1 = 4 ∨ u.1 = 8 ∨ u.1 = 16) ∧ u.2.1 ≤ 8 ∧ u.2.2.2.2.1 ≤ u.2.1 := by
  obtain ⟨sc, pl, ln, bn, n, dt, hi, sw, mi, hc, co⟩ := u
  exact ⟨h.1, h.2.1, h.2.2.1⟩
theorem ok_line {u : CBu} {j q : Nat} (h : Ok 256 u) (hl : cb_ln u j = some q) : q % u.1 = j ∧ q < 256 ∧ cb_where q u = 1 := by
  obtain ⟨sc, pl, ln, bn, n, dt, hi, sw, mi, hc, co⟩ := u
  obtain ⟨a1, a2, a3, a4, a5, a6, a7⟩ := h
  have hl : ln j = some q := hl
  obtain ⟨b1, b2, b3, -⟩ := a4 j q hl
  refine ⟨b2, b3, where_1.mpr ?_⟩
  show ln (q % sc) = some q
  rw [b2]
  exact hl
theorem ok_bench {u : CBu} {k : Nat} (h : Ok 256 u) (hk : k < u.2.2.2.2.1) : u.2.2.2.1 k < 256 ∧ cb_where (u.2.2.2.1 k) u = 2 ∧ cb_ln u (u.2.2.2.1 k % u.1) ≠ some (u.2.2.2.1 k) := by
  have h2 := (where_2 h).mpr ⟨k, hk, rfl⟩
  obtain ⟨sc, pl, ln, bn, n, dt, hi, sw, mi, hc, co⟩ := u
  obtain ⟨a1, a2, a3, a4, a5, a6, a7⟩ := h
  exact ⟨(a5 k hk).1, h2, (a5 k hk).2.2⟩
theorem ok_twice {u : CBu} {i j : Nat} (h : Ok 256 u) (hi : i < u.2.2.2.2.1) (hj : j < u.2.2.2.2.1) (hij : i ≠ j) : u.2.2.2.1 i ≠ u.2.2.2.1 j := by
  obtain ⟨sc, pl, ln, bn, n, dt, hi, sw, mi, hc, co⟩ := u
  obtain ⟨a1, a2, a3, a4, a5, a6, a7⟩ := h
  exact fun e => hij (a6 i j hi hj e)
theorem oI_ne {u : CBu} {k q : Nat} (h : Ok 256 u) (hq : q < 256) (ho : cb_ln u k ≠ some q) : oI (cb_ln u k) ≠ nI q := by
  cases e : cb_ln u k with
  | none => exact fun e2 => nI_m1 (show q < 2 ^ 31 by omega) e2.symm
  | some r =>
    have hr := (ok_line h e).2.1
    intro e2
    have := nI_inj (a := r) (b := q) (by omega) (by omega) e2
    exact ho (by rw [e, this])
end
section
/-! the class's contracts over one world; two worlds side by side -/
theorem map_rng {α : Type} (x y z : List α) : ∀ a, x.length = a → (List.range' a y.length).map (fun i => (x ++ (y ++ z))[i]?) = y.map some := by
  induction y generalizing x with
  | nil => intro a _; rfl
  | cons q qs ih =>
    intro a ha
    show (x ++ (q :: qs ++ z))[a]? :: _ = some q :: _
    congr 1
    · rw [List.getElem?_append_right (by omega), ha, Nat.sub_self]
      rfl
    · have := ih (x ++ [q]) (a + 1) (by simp [ha])
      rw [List.append_assoc] at this
      exact this
theorem ctJ_l {wc wr w1 : va_W} {n r : Nat} (h1 : wc.length = n) (h2 : wr.length = r) (h3 : w1.length = n) (hn1 : va_nd (List.range' 0 n) = true) (hn2 : va_nd (List.range' n r) = true) (hdis : ((List.range' n r).all fun i => decide (i ∉ List.range' 0 n)) = true) (hn3 : va_nd (List.range' r n ++ List.range' 0 r) = true) : ctJ (wc ++ wr) wc wr w1 (w1 ++ wr) (List.range' 0 n) (List.range' n r) (List.range' r n ++ List.range' 0 r) := by
  refine ⟨?_, ?_, hn1, hn2, hdis, ?_, hn3⟩
  · have := map_rng [] wc wr 0 rfl
    rw [h1] at this
    exact this
  · have := map_rng wc wr [] n h1
    rw [h2, List.append_nil] at this
    exact this
  · rw [List.map_append, List.map_append]
    congr 1
    · have := map_rng wr w1 [] r h2
      rw [h3, List.append_nil] at this
      exact this
    · have := map_rng [] wr w1 0 rfl
      rw [h2] at this
      exact this
theorem ctJ_r {wc wr w1 : va_W} {n r : Nat} (h1 : wc.length = n) (h2 : wr.length = r) (h3 : w1.length = n) (hn1 : va_nd (List.range' 0 r) = true) (hn2 : va_nd (List.range' r n) = true) (hdis : ((List.range' 0 r).all fun i => decide (i ∉ List.range' r n)) = true) (hn3 : va_nd (List.range' 0 (r + n)) = true) : ctJ (wr ++ wc) wc wr w1 (wr ++ w1) (List.range' r n) (List.range' 0 r) (List.range' 0 (r + n)) := by
  refine ⟨?_, ?_, hn2, hn1, hdis, ?_, hn3⟩
  · have := map_rng wr wc [] r h2
    rw [h1, List.append_nil] at this
    exact this
  · have := map_rng [] wr wc 0 rfl
    rw [h2] at this
    exact this
  · have := map_rng [] (wr ++ w1) [] 0 rfl
    rw [List.length_append, h2, h3, List.append_nil] at this
    exact this
def wOo (cyI cyZ : ClassId) (ad : Nat → Nat) (wr hm : Nat → Int32) (u tr : CBu) (la : LAu) : va_W := (OBo cyI (ad 0) (ad 1) (ad 2) (ad 3) (ad 7) (ad 11) wr hm) ++ ((CBc cyI cyZ (ad 3) (ad 4) (ad 5) (ad 6) u) ++ ((CBc cyI cyZ (ad 7) (ad 8) (ad 9) (ad 10) tr) ++ (LAc cyI cyZ (ad 11) (ad 12) (ad 13) la)))
theorem CBc_len (cyI cyZ : ClassId) (h a1 a2 a3 : Nat) (u : CBu) : (CBc cyI cyZ h a1 a2 a3 u).length = 4 := by
  obtain ⟨sc, pl, ln, bn, n, dt, hi, sw, mi, hc, co⟩ := u
  rfl
theorem LAc_len (cyI cyZ : ClassId) (h a1 a2 : Nat) (u : LAu) : (LAc cyI cyZ h a1 a2 u).length = 3 := by
  obtain ⟨ll, lw, lc, lx⟩ := u
  rfl
theorem wOo_len (cyI cyZ : ClassId) (ad : Nat → Nat) (wr hm : Nat → Int32) (u tr : CBu) (la : LAu) : (wOo cyI cyZ ad wr hm u tr la).length = 14 := by
  unfold wOo
  rw [List.length_append, List.length_append, List.length_append, CBc_len, CBc_len, LAc_len]
  rfl
theorem wOo_h (cyI cyZ : ClassId) (ad : Nat → Nat) (wr hm : Nat → Int32) (u tr : CBu) (la : LAu) : (wOo cyI cyZ ad wr hm u tr la)[0]? = some (ad 0, .inr (2, [.ref (ad 1), .ref (ad 2), .ref (ad 3), .ref (ad 7), .ref (ad 11)])) := rfl
/-- a world that is the callee's alone -/
theorem ctJ_a {w w1 : va_W} {n : Nat} (h1 : w.length = n) (h3 : w1.length = n) (hn1 : va_nd (List.range' 0 n) = true) : ctJ w w [] w1 w1 (List.range' 0 n) [] (List.range' 0 n) := by
  have e1 := map_rng [] w [] 0 rfl
  have e2 := map_rng [] w1 [] 0 rfl
  rw [h1, List.append_nil] at e1
  rw [h3, List.append_nil] at e2
  exact ⟨e1, rfl, hn1, rfl, rfl, e2, hn1⟩
abbrev wW (cyI : ClassId) (qa : Nat) (w : Nat → Int32) : va_W := [(qa, .inl (cyI, 64, .inl w))]
theorem wL_q (cyI cyZ : ClassId) (ad : Nat → Nat) (wr hm : Nat → Int32) (u tr : CBu) (la : LAu) (qa : Nat) (w : Nat → Int32) : (wOo cyI cyZ ad wr hm u tr la ++ wW cyI qa w)[14]? = some (qa, .inl (cyI, 64, .inl w)) := by
  rw [List.getElem?_append_right (by rw [wOo_len]; exact Nat.le_refl _), wOo_len]
  rfl
theorem wL_set (cyI cyZ : ClassId) (ad : Nat → Nat) (wr hm : Nat → Int32) (u tr : CBu) (la : LAu) (qa : Nat) (w w2 : Nat → Int32) : (wOo cyI cyZ ad wr hm u tr la ++ wW cyI qa w).set 14 (qa, .inl (cyI, 64, .inl w2)) = wOo cyI cyZ ad wr hm u tr la ++ wW cyI qa w2 := by
  rw [List.set_append_right _ _ (by rw [wOo_len]; exact Nat.le_refl _), wOo_len]
  rfl
theorem o_hits (l : Launch) (D : va_G) (cyI cyZ cyJ : ClassId) (ad : Nat → Nat) (wr hm : Nat → Int32) (u tr : CBu) (la : LAu)   : CtI l yX2_hits wsX2_hits rmX2_hits D (T3 cyI cyZ cyJ) [.ref (ad 0)] (wOo cyI cyZ ad wr hm u tr la) (cb_hi u) (wOo cyI cyZ ad wr hm u tr la) := by
  unfold wOo
  exact c_hits l D cyI cyZ cyJ (ad 0) (ad 1) (ad 2) (ad 3) (ad 4) (ad 5) (ad 6) (ad 7) (ad 8) (ad 9) (ad 10) (ad 11) (ad 12) (ad 13) wr hm u tr la 
theorem o_swaps (l : Launch) (D : va_G) (cyI cyZ cyJ : ClassId) (ad : Nat → Nat) (wr hm : Nat → Int32) (u tr : CBu) (la : LAu)   : CtI l yX2_swaps wsX2_swaps rmX2_swaps D (T3 cyI cyZ cyJ) [.ref (ad 0)] (wOo cyI cyZ ad wr hm u tr la) (cb_sw u) (wOo cyI cyZ ad wr hm u tr la) := by
  unfold wOo
  exact c_swaps l D cyI cyZ cyJ (ad 0) (ad 1) (ad 2) (ad 3) (ad 4) (ad 5) (ad 6) (ad 7) (ad 8) (ad 9) (ad 10) (ad 11) (ad 12) (ad 13) wr hm u tr la 
theorem o_misses (l : Launch) (D : va_G) (cyI cyZ cyJ : ClassId) (ad : Nat → Nat) (wr hm : Nat → Int32) (u tr : CBu) (la : LAu)   : CtI l yX2_misses wsX2_misses rmX2_misses D (T3 cyI cyZ cyJ) [.ref (ad 0)] (wOo cyI cyZ ad wr hm u tr la) (cb_mi u) (wOo cyI cyZ ad wr hm u tr la) := by
  unfold wOo
  exact c_misses l D cyI cyZ cyJ (ad 0) (ad 1) (ad 2) (ad 3) (ad 4) (ad 5) (ad 6) (ad 7) (ad 8) (ad 9) (ad 10) (ad 11) (ad 12) (ad 13) wr hm u tr la 
theorem o_homecomings (l : Launch) (D : va_G) (cyI cyZ cyJ : ClassId) (ad : Nat → Nat) (wr hm : Nat → Int32) (u tr : CBu) (la : LAu)   : CtI l yX2_homecomings wsX2_homecomings rmX2_homecomings D (T3 cyI cyZ cyJ) [.ref (ad 0)] (wOo cyI cyZ ad wr hm u tr la) (cb_hc u) (wOo cyI cyZ ad wr hm u tr la) := by
  unfold wOo
  exact c_homecomings l D cyI cyZ cyJ (ad 0) (ad 1) (ad 2) (ad 3) (ad 4) (ad 5) (ad 6) (ad 7) (ad 8) (ad 9) (ad 10) (ad 11) (ad 12) (ad 13) wr hm u tr la 
theorem o_cost (l : Launch) (D : va_G) (cyI cyZ cyJ : ClassId) (ad : Nat → Nat) (wr hm : Nat → Int32) (u tr : CBu) (la : LAu)   : CtI l yX2_cost wsX2_cost rmX2_cost D (T3 cyI cyZ cyJ) [.ref (ad 0)] (wOo cyI cyZ ad wr hm u tr la) (cb_co u) (wOo cyI cyZ ad wr hm u tr la) := by
  unfold wOo
  exact c_cost l D cyI cyZ cyJ (ad 0) (ad 1) (ad 2) (ad 3) (ad 4) (ad 5) (ad 6) (ad 7) (ad 8) (ad 9) (ad 10) (ad 11) (ad 12) (ad 13) wr hm u tr la 
theorem o_sets (l : Launch) (D : va_G) (cyI cyZ cyJ : ClassId) (ad : Nat → Nat) (wr hm : Nat → Int32) (u tr : CBu) (la : LAu)   : CtI l yX2_sets wsX2_sets rmX2_sets D (T3 cyI cyZ cyJ) [.ref (ad 0)] (wOo cyI cyZ ad wr hm u tr la) (nI u.1) (wOo cyI cyZ ad wr hm u tr la) := by
  unfold wOo
  exact c_sets l D cyI cyZ cyJ (ad 0) (ad 1) (ad 2) (ad 3) (ad 4) (ad 5) (ad 6) (ad 7) (ad 8) (ad 9) (ad 10) (ad 11) (ad 12) (ad 13) wr hm u tr la 
theorem o_places (l : Launch) (D : va_G) (cyI cyZ cyJ : ClassId) (ad : Nat → Nat) (wr hm : Nat → Int32) (u tr : CBu) (la : LAu)   : CtI l yX2_places wsX2_places rmX2_places D (T3 cyI cyZ cyJ) [.ref (ad 0)] (wOo cyI cyZ ad wr hm u tr la) (nI u.2.1) (wOo cyI cyZ ad wr hm u tr la) := by
  unfold wOo
  exact c_places l D cyI cyZ cyJ (ad 0) (ad 1) (ad 2) (ad 3) (ad 4) (ad 5) (ad 6) (ad 7) (ad 8) (ad 9) (ad 10) (ad 11) (ad 12) (ad 13) wr hm u tr la 
theorem o_sitting (l : Launch) (D : va_G) (cyI cyZ cyJ : ClassId) (ad : Nat → Nat) (wr hm : Nat → Int32) (u tr : CBu) (la : LAu)   : CtI l yX2_sitting wsX2_sitting rmX2_sitting D (T3 cyI cyZ cyJ) [.ref (ad 0)] (wOo cyI cyZ ad wr hm u tr la) (nI u.2.2.2.2.1) (wOo cyI cyZ ad wr hm u tr la) := by
  unfold wOo
  exact c_sitting l D cyI cyZ cyJ (ad 0) (ad 1) (ad 2) (ad 3) (ad 4) (ad 5) (ad 6) (ad 7) (ad 8) (ad 9) (ad 10) (ad 11) (ad 12) (ad 13) wr hm u tr la 
theorem o_dirty (l : Launch) (D : va_G) (cyI cyZ cyJ : ClassId) (ad : Nat → Nat) (wr hm : Nat → Int32) (u tr : CBu) (la : LAu)   : CtI l yX2_dirty wsX2_dirty rmX2_dirty D (T3 cyI cyZ cyJ) [.ref (ad 0)] (wOo cyI cyZ ad wr hm u tr la) (nI (cb_dirty u)) (wOo cyI cyZ ad wr hm u tr la) := by
  unfold wOo
  exact c_dirty l D cyI cyZ cyJ (ad 0) (ad 1) (ad 2) (ad 3) (ad 4) (ad 5) (ad 6) (ad 7) (ad 8) (ad 9) (ad 10) (ad 11) (ad 12) (ad 13) wr hm u tr la 
theorem o_lineIn (l : Launch) (D : va_G) (cyI cyZ cyJ : ClassId) (ad : Nat → Nat) (wr hm : Nat → Int32) (u tr : CBu) (la : LAu) (k : Nat) (hbd : cb_bd u) (hk : k < u.1) : CtI l yX2_lineIn wsX2_lineIn rmX2_lineIn D (T3 cyI cyZ cyJ) [.ref (ad 0), .int (nI k)] (wOo cyI cyZ ad wr hm u tr la) (oI (cb_ln u k)) (wOo cyI cyZ ad wr hm u tr la) := by
  unfold wOo
  exact c_lineIn l D cyI cyZ cyJ (ad 0) (ad 1) (ad 2) (ad 3) (ad 4) (ad 5) (ad 6) (ad 7) (ad 8) (ad 9) (ad 10) (ad 11) (ad 12) (ad 13) wr hm u tr la k hbd hk
theorem o_lineOnBench (l : Launch) (D : va_G) (cyI cyZ cyJ : ClassId) (ad : Nat → Nat) (wr hm : Nat → Int32) (u tr : CBu) (la : LAu) (k : Nat) (hbd : cb_bd u) (hk : k < u.2.2.2.2.1) : CtI l yX2_lineOnBench wsX2_lineOnBench rmX2_lineOnBench D (T3 cyI cyZ cyJ) [.ref (ad 0), .int (nI k)] (wOo cyI cyZ ad wr hm u tr la) (nI (u.2.2.2.1 (u.2.2.2.2.1 - 1 - k))) (wOo cyI cyZ ad wr hm u tr la) := by
  unfold wOo
  exact c_lineOnBench l D cyI cyZ cyJ (ad 0) (ad 1) (ad 2) (ad 3) (ad 4) (ad 5) (ad 6) (ad 7) (ad 8) (ad 9) (ad 10) (ad 11) (ad 12) (ad 13) wr hm u tr la k hbd hk
theorem o_placeOf (l : Launch) (D : va_G) (cyI cyZ cyJ : ClassId) (ad : Nat → Nat) (wr hm : Nat → Int32) (u tr : CBu) (la : LAu) (q : Nat) (hbd : cb_bd u) (hq : q < 256) : CtI l yX2_placeOf wsX2_placeOf rmX2_placeOf D (T3 cyI cyZ cyJ) [.ref (ad 0), .int (nI q)] (wOo cyI cyZ ad wr hm u tr la) (nI (cb_where q u)) (wOo cyI cyZ ad wr hm u tr la) := by
  unfold wOo
  exact c_placeOf l D cyI cyZ cyJ (ad 0) (ad 1) (ad 2) (ad 3) (ad 4) (ad 5) (ad 6) (ad 7) (ad 8) (ad 9) (ad 10) (ad 11) (ad 12) (ad 13) wr hm u tr la q hbd hq
theorem o_isDirty (l : Launch) (D : va_G) (cyI cyZ cyJ : ClassId) (ad : Nat → Nat) (wr hm : Nat → Int32) (u tr : CBu) (la : LAu) (q : Nat) (hq : q < 256) : CtI l yX2_isDirty wsX2_isDirty rmX2_isDirty D (T3 cyI cyZ cyJ) [.ref (ad 0), .int (nI q)] (wOo cyI cyZ ad wr hm u tr la) (bI (cb_dt u q)) (wOo cyI cyZ ad wr hm u tr la) := by
  unfold wOo
  exact c_isDirty l D cyI cyZ cyJ (ad 0) (ad 1) (ad 2) (ad 3) (ad 4) (ad 5) (ad 6) (ad 7) (ad 8) (ad 9) (ad 10) (ad 11) (ad 12) (ad 13) wr hm u tr la q hq
theorem o_atHome (l : Launch) (D : va_G) (cyI cyZ cyJ : ClassId) (ad : Nat → Nat) (wr hm : Nat → Int32) (u tr : CBu) (la : LAu) (a : Nat) (ha : a < 1024) : CtI l yX2_atHome wsX2_atHome rmX2_atHome D (T3 cyI cyZ cyJ) [.ref (ad 0), .int (nI a)] (wOo cyI cyZ ad wr hm u tr la) ((if cb_dt u (a / 4) = true then hm a else wr a)) (wOo cyI cyZ ad wr hm u tr la) := by
  unfold wOo
  exact c_atHome l D cyI cyZ cyJ (ad 0) (ad 1) (ad 2) (ad 3) (ad 4) (ad 5) (ad 6) (ad 7) (ad 8) (ad 9) (ad 10) (ad 11) (ad 12) (ad 13) wr hm u tr la a ha
theorem o_peek (l : Launch) (D : va_G) (cyI cyZ cyJ : ClassId) (ad : Nat → Nat) (wr hm : Nat → Int32) (u tr : CBu) (la : LAu) (a : Nat) (ha : a < 1024) : CtI l yX2_peek wsX2_peek rmX2_peek D (T3 cyI cyZ cyJ) [.ref (ad 0), .int (nI a)] (wOo cyI cyZ ad wr hm u tr la) ((wr a)) (wOo cyI cyZ ad wr hm u tr la) := by
  unfold wOo
  exact c_peek l D cyI cyZ cyJ (ad 0) (ad 1) (ad 2) (ad 3) (ad 4) (ad 5) (ad 6) (ad 7) (ad 8) (ad 9) (ad 10) (ad 11) (ad 12) (ad 13) wr hm u tr la a ha
theorem o_read (l : Launch) (D : va_G) (cyI cyZ cyJ : ClassId) (ad : Nat → Nat) (wr hm : Nat → Int32) (u tr : CBu) (la : LAu) (a : Nat) (hbd : cb_bd u) (hla : la_bd la) (ha : a < 1024) : CtI l yX2_read wsX2_read rmX2_read D (T3 cyI cyZ cyJ) [.ref (ad 0), .int (nI a)] (wOo cyI cyZ ad wr hm u tr la) ((wr a)) (wOo cyI cyZ ad wr hm (cb_acc (a / 4) false u) tr (la_add (a / 4) false la)) := by
  unfold wOo
  exact c_read l D cyI cyZ cyJ (ad 0) (ad 1) (ad 2) (ad 3) (ad 4) (ad 5) (ad 6) (ad 7) (ad 8) (ad 9) (ad 10) (ad 11) (ad 12) (ad 13) wr hm u tr la a hbd hla ha
theorem o_write (l : Launch) (D : va_G) (cyI cyZ cyJ : ClassId) (ad : Nat → Nat) (wr hm : Nat → Int32) (u tr : CBu) (la : LAu) (a : Nat) (v : Int32) (hbd : cb_bd u) (hla : la_bd la) (ha : a < 1024) : CtI l yX2_write wsX2_write rmX2_write D (T3 cyI cyZ cyJ) [.ref (ad 0), .int (nI a), .int v] (wOo cyI cyZ ad wr hm u tr la) ((wr a)) (wOo cyI cyZ ad (ru wr a v) (if cb_dt u (a / 4) = true then hm else cpy hm wr (a / 4 * 4) (a / 4 * 4 + 4)) (cb_acc (a / 4) true u) tr (la_add (a / 4) true la)) := by
  unfold wOo
  exact c_write l D cyI cyZ cyJ (ad 0) (ad 1) (ad 2) (ad 3) (ad 4) (ad 5) (ad 6) (ad 7) (ad 8) (ad 9) (ad 10) (ad 11) (ad 12) (ad 13) wr hm u tr la a v hbd hla ha
theorem o_walk (l : Launch) (D : va_G) (cyI cyZ cyJ : ClassId) (ad : Nat → Nat) (wr hm : Nat → Int32) (u tr : CBu) (la : LAu) (a : Nat) (z : Int) (k : Nat) (hbd : cb_bd u) (hla : la_bd la) (ha : a < 1024) (hz1 : -64 ≤ z) (hz2 : z ≤ 64) (hk1 : 1 ≤ k) (hk2 : k ≤ 100) : CtI l yX2_walk wsX2_walk rmX2_walk D (T3 cyI cyZ cyJ) [.ref (ad 0), .int (nI a), .int (Int32.ofInt z), .int (nI k)] (wOo cyI cyZ ad wr hm u tr la) (cb_co (ob_walk a z k u la).1 - cb_co u) (wOo cyI cyZ ad wr hm ((ob_walk a z k u la).1) tr ((ob_walk a z k u la).2)) := by
  unfold wOo
  exact c_walk l D cyI cyZ cyJ (ad 0) (ad 1) (ad 2) (ad 3) (ad 4) (ad 5) (ad 6) (ad 7) (ad 8) (ad 9) (ad 10) (ad 11) (ad 12) (ad 13) wr hm u tr la a z k hbd hla ha hz1 hz2 hk1 hk2
theorem o_bringHome (l : Launch) (D : va_G) (cyI cyZ cyJ : ClassId) (ad : Nat → Nat) (wr hm : Nat → Int32) (u tr : CBu) (la : LAu)  (hbd : cb_bd u) : CtI l yX2_bringHome wsX2_bringHome rmX2_bringHome D (T3 cyI cyZ cyJ) [.ref (ad 0)] (wOo cyI cyZ ad wr hm u tr la) (cb_hc (cb_bring u) - cb_hc u) (wOo cyI cyZ ad wr hm (cb_bring u) tr la) := by
  unfold wOo
  exact c_bringHome l D cyI cyZ cyJ (ad 0) (ad 1) (ad 2) (ad 3) (ad 4) (ad 5) (ad 6) (ad 7) (ad 8) (ad 9) (ad 10) (ad 11) (ad 12) (ad 13) wr hm u tr la hbd
theorem o_build (l : Launch) (D : va_G) (cyI cyZ cyJ : ClassId) (ad : Nat → Nat) (wr hm : Nat → Int32) (u tr : CBu) (la : LAu) (s' p' : Nat) (hbd : cb_bd u) (hs : s' = 1 ∨ s' = 2 ∨ s' = 4 ∨ s' = 8 ∨ s' = 16) (hp : p' ≤ 8) : CtI l yX2_build wsX2_build rmX2_build D (T3 cyI cyZ cyJ) [.ref (ad 0), .int (nI s'), .int (nI p')] (wOo cyI cyZ ad wr hm u tr la) (nI (cb_lines u)) (wOo cyI cyZ ad wr hm (cb_empty s' p' (cb_bring u)) tr la) := by
  unfold wOo
  exact c_build l D cyI cyZ cyJ (ad 0) (ad 1) (ad 2) (ad 3) (ad 4) (ad 5) (ad 6) (ad 7) (ad 8) (ad 9) (ad 10) (ad 11) (ad 12) (ad 13) wr hm u tr la s' p' hbd hs hp
theorem o_cast (l : Launch) (D : va_G) (cyI cyZ cyJ : ClassId) (ad : Nat → Nat) (wr hm : Nat → Int32) (u tr : CBu) (la : LAu) (k q : Nat) (hbd : cb_bd u) (hk : k < u.1) (hln : cb_ln u k = some q) : CtI l yX2_cast wsX2_cast rmX2_cast D (T3 cyI cyZ cyJ) [.ref (ad 0), .int (nI k)] (wOo cyI cyZ ad wr hm u tr la) (nI q) (wOo cyI cyZ ad wr hm (cb_throw k u) tr la) := by
  unfold wOo
  exact c_cast l D cyI cyZ cyJ (ad 0) (ad 1) (ad 2) (ad 3) (ad 4) (ad 5) (ad 6) (ad 7) (ad 8) (ad 9) (ad 10) (ad 11) (ad 12) (ad 13) wr hm u tr la k q hbd hk hln
theorem o_wouldCost (l : Launch) (D : va_G) (cyI cyZ cyJ : ClassId) (ad : Nat → Nat) (wr hm : Nat → Int32) (u tr : CBu) (la : LAu) (s' p' : Nat) (hla : la_bd la) (hs : s' = 1 ∨ s' = 2 ∨ s' = 4 ∨ s' = 8 ∨ s' = 16) (hp : p' ≤ 8) : CtI l yX2_wouldCost wsX2_wouldCost rmX2_wouldCost D (T3 cyI cyZ cyJ) [.ref (ad 0), .int (nI s'), .int (nI p')] (wOo cyI cyZ ad wr hm u tr la) (cb_co (la_trial la s' p' tr) - cb_co tr) (wOo cyI cyZ ad wr hm u (la_trial la s' p' tr) la) := by
  unfold wOo
  exact c_wouldCost l D cyI cyZ cyJ (ad 0) (ad 1) (ad 2) (ad 3) (ad 4) (ad 5) (ad 6) (ad 7) (ad 8) (ad 9) (ad 10) (ad 11) (ad 12) (ad 13) wr hm u tr la s' p' hla hs hp
theorem o_bestPlaces (l : Launch) (D : va_G) (cyI cyZ cyJ : ClassId) (ad : Nat → Nat) (wr hm : Nat → Int32) (u tr : CBu) (la : LAu)  (hbd : cb_bd u) (hla : la_bd la) : CtI l yX2_bestPlaces wsX2_bestPlaces rmX2_bestPlaces D (T3 cyI cyZ cyJ) [.ref (ad 0)] (wOo cyI cyZ ad wr hm u tr la) (nI (la_best la u.1 8 tr).1) (wOo cyI cyZ ad wr hm u ((la_best la u.1 8 tr).2.2) la) := by
  unfold wOo
  exact c_bestPlaces l D cyI cyZ cyJ (ad 0) (ad 1) (ad 2) (ad 3) (ad 4) (ad 5) (ad 6) (ad 7) (ad 8) (ad 9) (ad 10) (ad 11) (ad 12) (ad 13) wr hm u tr la hbd hla
end
section
/-! the law's helpers: a static call that reads the script -/
def CtK (l : Launch) (y : MethodName) (ws : List Cond) (rm : Room) (D : va_G) (tys : List (ClassId × FieldType)) (av : List Value) (N : State → Prop) (v : Int32) : Prop :=
  ∀ sz : Nat, Met l y ws rm (va_Pc av (fun U => ctP D tys [] sz U ∧ N U)) (ctQi D tys v [] (va_A [] sz)) 0 0 (va_A [] sz)
theorem CtK.of {l : Launch} {y : MethodName} {ws ws0 : List Cond} {rm : Room} {D : va_G} {tys : List (ClassId × FieldType)} {av : List Value} {N : State → Prop} {v : Int32} {cc : ByteArray} {maxL : Nat} {ret : Option FieldType} {lv0 : List (Nat × Value)}
    (hy : plainName y.cls = true) (hw : ws = Cond.code y cc maxL ret :: ws0) (hle : (lg_sl av).length ≤ maxL) (hlv : lv_args 0 av = lv0)
    (body : ∀ (p : Program) (e : Env) (s : State) (m : MethodId) (below : List Frame) (meth : Method) (c : Code) (A : Nat → Prop) (ls : Array Slot) (args : Array Value) (Q : State → Prop), p.tables.exec = Jvm.exec → c.code = cc → c.maxLocals = maxL → meth.sig.returnType = ret → meth.locks = false → N s → (∀ wd ∈ ws, wd.before args s = true) → s.vm.findClass y.cls = some m.cls → va_K D vwCl tys s → va_P D vwCl ([] : va_W) s.heap → (∀ q : Nat, s.heap.size ≤ q → A q) → (∀ q : Nat, q < s.heap.size → ¬ A q) → va_D A ([] : va_W) → va_S A s.heap s.heap [] → lv_has ls maxL lv0 →
      Q = MQ below (ctQi D tys v [] A) args s 0 0 A → W p l e rm s m args below meth c s.heap [] 0 0 Q (F0 m 0 ls [])) : CtK l y ws rm D tys av N v := by
  intro sz
  refine Met.ofW (cc := cc) (maxL := maxL) (ret := ret) hy hw ?_
  intro p e s m args below meth c s₁ B hml hv
  obtain ⟨rfl, ⟨hsz, hP, hK, hD0⟩, hN⟩ := hv
  have hts := atoms_spec (ws := ws) B.pre
  subst hsz
  have hl := lv_entry av (n := maxL) hle
  rw [hlv] at hl
  rw [lg_entry_eq]
  have hD : va_D (va_A [] s.heap.size) [] := hD0.self (sz := s.heap.size)
  refine body p e s m below meth c (va_A [] s.heap.size) _ _ _ B.exec B.bytes hml B.returns B.notSynchronized hN hts (findClass_of_methodNamed B.named) hK hP (fun q h => Or.inr h) (fun q hq h => ?_) hD va_S.rf hl rfl
  rcases h with ⟨k, e, h⟩ | h
  · simp at h
  · omega
section CK
variable {p : Program} {l : Launch} {e : Env} {R : Room} {s : State} {m : MethodId} {args : Array Value} {below : List Frame} {meth : Method} {c : Code} {H : Heap} {locs : List Loc} {cells slots : Nat} {Q : State → Prop}
variable {cc : ByteArray} {pc : Nat} {ls : Array Slot} {rest st0 : List Value} {D : va_G} {A : Nat → Prop} {tys : List (ClassId × FieldType)} {ws : va_W}
theorem CtK.callS {y : MethodName} {wsy wsy0 : List Cond} {rmy : Room} {by_ : ByteArray} {maxLy nL n index : Nat} {rt : Option FieldType} {As : List Value} {Ts : List Cond} {own : String} {N : State → Prop} {isR ps : List Nat} {v : Int32}
    (hM : CtK l y wsy rmy D tys As N v) (hNb : ∀ (a : Array Value) (U : State) (g : JFrame) (mk : MethodId), N U → N (U.calling g mk a)) (hN : ∀ U : State, U.heap = H → s.WarmedH U.vm → N U) (S : ctF p m c cc s args Ts own) (hG : GoodIn Ts (va_wsS own index y wsy)) (hwy : wsy = Cond.code y by_ maxLy rt :: wsy0)
    (hd : y.cls ≠ "java/lang/invoke/MethodHandle" ∧ y.cls ≠ "java/lang/invoke/VarHandle" ∧ (parseMethodDescriptor y.desc).map (fun d => d.parameters.length) = some n) (hR : rmy.frames + 1 ≤ R.frames ∧ 8 + (maxLy + 11) + rmy.locals ≤ R.locals) (hrc : rmy.cells = 0 ∧ rmy.slots = 0) (hml : c.maxLocals = nL) (hls : ls.size = nL)
    (hK : va_K D vwCl tys s) (hP : va_P D vwCl ws H) (hD : va_D A ws) (hS : va_S A s.heap H locs) (hA : ∀ q : Nat, s.heap.size ≤ q → A q) (hJ : ctJ ws [] ws [] ws [] isR ps)
    (hst : st0 = As.reverse ++ rest) (hn : As.length = n) (hcat : (rest.map fun v => v.category).sum ≤ 8) (hcel : cells ≤ R.cells ∧ slots ≤ R.slots) (hdg : decode cc pc = .ok (.invokestatic index, 3))
    (kk : ∀ (H1 : Heap) (locs1 : List Loc), va_P D vwCl ws H1 → va_D A ws → va_S A s.heap H1 locs1 → W p l e R s m args below meth c H1 locs1 cells slots Q (F0 m (pc + 3) ls (.int v :: rest))) : W p l e R s m args below meth c H locs cells slots Q (F0 m pc ls st0) := by
  obtain ⟨hx, hb, hown, hts⟩ := S
  have hF := va_free hD hS hA [] hJ.1
  refine va_calli (va_runS (As := As) (rest := rest) ⟨hx, hb, hml, hown, hts⟩ (hM H.size) (va_cwS n hts hG hwy hrc.1 hrc.2 hd hR) ⟨ctPN_blind hNb, ct_preN hK hP hD hJ.1 hJ.2.2.1 hN⟩ rfl hn hls hst (lv_room hcat) hdg ⟨hcel.1, hcel.2⟩) hS (fun q _ h => hF q h) hF (fun r u t H1 locs1 ht hvm hw hB hz1 hk1 hS1 => ?_)
  obtain ⟨j1, j2⟩ := ct_back hJ hP hD hS hA ht hB hk1
  subst hw
  exact kk H1 locs1 j1 j2 hS1
end CK
/-- a callee that sees nothing of the world -/
theorem ctJ_0 {w : va_W} {n : Nat} (h : w.length = n) (hn : va_nd (List.range' 0 n) = true) (hdis : ((List.range' 0 n).all fun i => decide (i ∉ ([] : List Nat))) = true) : ctJ w [] w [] w [] (List.range' 0 n) (List.range' 0 n) := by
  have e := map_rng [] w [] 0 rfl
  rw [h, List.append_nil] at e
  have e2 := e
  rw [← List.append_nil ([] ++ w)] at e2
  exact ⟨rfl, e, rfl, hn, hdis, by rw [List.append_nil]; exact e, hn⟩
def tapeN (b L : Nat) (xs : Nat → Int32) (U : State) : Prop := b < U.heap.size ∧ va_X b L xs U U.heap
theorem tapeN_b {b L : Nat} {xs : Nat → Int32} : ∀ (a : Array Value) (U : State) (g : JFrame) (mk : MethodId), tapeN b L xs U → tapeN b L xs (U.calling g mk a) := fun a U g mk h => ⟨h.1, va_X.moved (u := U) (U := U.calling g mk a) (Vm.Alike.refl U.vm) h.2⟩
theorem tapeN_goes {b L : Nat} {xs : Nat → Int32} {s U : State} {A : Nat → Prop} {H : Heap} {locs : List Loc} (hX : va_X b L xs s s.heap) (hbl : b < s.heap.size) (hbA : ¬ A b) (hS : va_S A s.heap H locs) (hU : U.heap = H) (hW : s.WarmedH U.vm) : tapeN b L xs U := by
  unfold tapeN
  rw [hU]
  exact ⟨Nat.lt_of_lt_of_le hbl hS.1, (hX.kept (hS.2.1 b hbl hbA)).moved hW.alike⟩
/-- the half of a number's bits -/
def half (x : Int32) : Nat := x.toBitVec.toNat / 2
theorem half_lt (x : Int32) : half x < 2 ^ 31 := by
  unfold half
  have := x.toBitVec.isLt
  omega
theorem nI_ofBits {x : Int32} {n : Nat} (h : x.toBitVec.toNat = n) : x = nI n := by
  subst h
  apply Int32.toBitVec_inj.mp
  show x.toBitVec = BitVec.ofNat 32 x.toBitVec.toNat
  rw [BitVec.ofNat_toNat, BitVec.setWidth_eq]
theorem ushr_half (x : Int32) : (x.toUInt32 >>> ((nI 1).toUInt32 &&& Int32.toUInt32 31)).toInt32 = nI (half x) := by
  refine nI_ofBits ?_
  rw [pk_ushr x (nI 1) 1 (by decide)]
  rfl
/-- what the law draws at a place of the script -/
def drw (xs : Nat → Int32) (L k : Nat) : Int32 := if k < L then xs k else nI 27697 * nI k + 40009
abbrev rmL_drawn : Room := { frames := 0, cells := 0, slots := 0, locals := 0 }
set_option maxRecDepth 10000 in
theorem c_drawn (l : Launch) (D : va_G) (cyI cyZ cyJ : ClassId) (b L : Nat) (xs : Nat → Int32) (k n : Nat) (hk : k < 2 ^ 31) (hL : L < 2 ^ 31) (hn : 0 < n) (hn2 : n < 2 ^ 31) : CtK l yL_drawn wsL_drawn rmL_drawn D (T3 cyI cyZ cyJ) [.ref b, .int (nI k), .int (nI n)] (tapeN b L xs) (nI (half (drw xs L k) % n)) := by
  refine CtK.of (cc := cL_drawn) (maxL := 4) (ret := (some .int)) (lv0 := [(0, .ref b), (1, .int (nI k)), (2, .int (nI n))]) (by decide) rfl (Nat.le_of_ble_eq_true rfl) rfl ?_
  intro p e s m below meth c A ls args Q hx hb hml hr hlk hN hts hown hK hP hA hAn hD hS hl hQ
  obtain ⟨hbl, hX⟩ := hN
  have hbA := hAn b hbl
  have hown : s.vm.findClass RL = some m.cls := hown
  have hend : ∀ (x : Int32), x = drw xs L k → W p l e rmL_drawn s m args below meth c s.heap [] 0 0 Q (F0 m 20 ls [.int x]) := by
    intro x hxx
    refine lv_istore_n (lv' := [(3, .int x), (0, .ref b), (1, .int (nI k)), (2, .int (nI n))]) hx hb dL_drawn_20 rfl hl (by decide) rfl (fun ls hl => ?_)
    refine lv_iload_n hx hb dL_drawn_21 rfl (lv_at hl 0 rfl) ?_
    refine lv_iconst (v := nI 1) hx hb dL_drawn_22 (by decide) ?_
    refine lv_iushr (v := nI (half x)) hx hb dL_drawn_23 (ushr_half x) ?_
    refine lv_iload_n hx hb dL_drawn_24 rfl (lv_at hl 3 rfl) ?_
    refine mq_irem (x := half x) (y := n) (half_lt x) hn hn2 hx hb dL_drawn_25 ?_
    exact CtI.ret hQ hx hb hr hlk hK hP hD hS dL_drawn_26 (by rw [hxx]) rfl
  refine lv_iload_n hx hb dL_drawn_0 rfl (lv_at hl 1 rfl) ?_
  refine lv_aload_n hx hb dL_drawn_1 rfl (lv_at hl 0 rfl) ?_
  refine va_slen hx hb hX hbl hbA hS dL_drawn_2 ?_
  refine mq_ge (x := k) (y := L) (tgt := 12) hk hL hx hb dL_drawn_3 (by decide) (fun h => ?_) (fun h => ?_)
  · refine lv_sipush (v := nI 27697) hx hb dL_drawn_12 (by decide) ?_
    refine lv_iload_n hx hb dL_drawn_15 rfl (lv_at hl 1 rfl) ?_
    refine lv_imul (x := nI 27697) (y := nI k) hx hb dL_drawn_16 ?_
    refine W.ldc (own := RL) (v := 40009) hx hb hown (hts (.constant RL 7 (40009)) (by decide +kernel)) rfl dL_drawn_17 ?_
    refine lv_iadd (x := nI 27697 * nI k) (y := 40009) hx hb dL_drawn_19 ?_
    exact hend _ (by unfold drw; rw [if_neg (by omega)])
  · refine lv_aload_n hx hb dL_drawn_6 rfl (lv_at hl 0 rfl) ?_
    refine lv_iload_n hx hb dL_drawn_7 rfl (lv_at hl 1 rfl) ?_
    refine va_sld hx hb hX hbl hbA hS (vp_in_nI h hL) dL_drawn_8 ?_
    refine lv_goto (tgt := 20) hx hb dL_drawn_9 (by decide) ?_
    rw [nI_clamp hk]
    exact hend _ (by unfold drw; rw [if_pos h])
abbrev rmL_address : Room := { frames := 0, cells := 0, slots := 0, locals := 0 }
theorem c_address (l : Launch) (D : va_G) (cyI cyZ cyJ : ClassId) (sl : Nat) (hs : sl < 64) : CtI l yL_address wsL_address rmL_address D (T3 cyI cyZ cyJ) [.int (nI sl)] (([] : va_W)) (nI (ads sl)) (([] : va_W)) := by
  refine CtI.of (cc := cL_address) (maxL := 1) (ret := (some .int)) (lv0 := [(0, .int (nI sl))]) (by decide) rfl (Nat.le_of_ble_eq_true rfl) rfl ?_
  intro p e s m below meth c A ls args Q hx hb hml hr hlk hts hown hK hP hA hD hS hl hQ
  refine lv_sipush (v := nI 128) hx hb dL_address_0 (by decide) ?_
  refine lv_iload_n hx hb dL_address_3 rfl (lv_at hl 0 rfl) ?_
  refine lv_bipush (v := nI 8) hx hb dL_address_4 (by decide) ?_
  refine mq_idiv (x := sl) (y := 8) (by omega) (by omega) (by omega) hx hb dL_address_6 ?_
  refine mq_imul (x := 128) (y := sl / 8) hx hb dL_address_7 ?_
  refine lv_iload_n hx hb dL_address_8 rfl (lv_at hl 0 rfl) ?_
  refine lv_bipush (v := nI 8) hx hb dL_address_9 (by decide) ?_
  refine mq_irem (x := sl) (y := 8) (by omega) (by omega) (by omega) hx hb dL_address_11 ?_
  refine mq_iadd (x := 128 * (sl / 8)) (y := sl % 8) hx hb dL_address_12 ?_
  refine lv_iload_n hx hb dL_address_13 rfl (lv_at hl 0 rfl) ?_
  refine lv_bipush (v := nI 8) hx hb dL_address_14 (by decide) ?_
  refine mq_idiv (x := sl) (y := 8) (by omega) (by omega) (by omega) hx hb dL_address_16 ?_
  refine mq_iadd (x := 128 * (sl / 8) + sl % 8) (y := sl / 8) hx hb dL_address_17 ?_
  exact CtI.ret hQ hx hb hr hlk hK hP hD hS dL_address_18 rfl rfl
end
section
/-! the law's look at the whole -/
abbrev rmL_isInOrder : Room := { frames := 3, cells := 0, slots := 0, locals := 70 }
set_option maxRecDepth 100000 in
set_option maxHeartbeats 4000000 in
theorem o_isInOrder (l : Launch) (D : va_G) (cyI cyZ cyJ : ClassId) (ad : Nat → Nat) (wr hm : Nat → Int32) (u tr : CBu) (la : LAu) (hk : Ok 256 u) (hcf : CF u) : CtI l yL_isInOrder wsL_isInOrder rmL_isInOrder D (T3 cyI cyZ cyJ) [.ref (ad 0)] (wOo cyI cyZ ad wr hm u tr la) (nI 1) (wOo cyI cyZ ad wr hm u tr la) := by
  refine CtI.of (cc := cL_isInOrder) (maxL := 8) (ret := (some .boolean)) (lv0 := [(0, .ref (ad 0))]) (by decide) rfl (Nat.le_of_ble_eq_true rfl) rfl ?_
  intro p e s m below meth c A ls args Q hx hb hml hr hlk hts hown hK hP hA hD hS hl hQ
  have hown : s.vm.findClass RL = some m.cls := hown
  have hbd := ok_of hk
  obtain ⟨hs5, hpl8, hnp⟩ := ok_sizes hk
  refine lv_iconst (v := nI 0) hx hb dL_isInOrder_0 (by decide) ?_
  refine lv_istore_n (lv' := [(1, .int (nI 0)), (0, .ref (ad 0))]) hx hb dL_isInOrder_1 rfl hl (by decide) rfl (fun ls hl => ?_)
  refine lv_iconst (v := nI 0) hx hb dL_isInOrder_2 (by decide) ?_
  refine lv_istore_n (lv' := [(2, .int (nI 0)), (1, .int (nI 0)), (0, .ref (ad 0))]) hx hb dL_isInOrder_3 rfl hl (by decide) rfl (fun ls hl => ?_)
  refine lv_iconst (v := nI 0) hx hb dL_isInOrder_4 (by decide) ?_
  refine lv_istore_n (lv' := [(3, .int (nI 0)), (2, .int (nI 0)), (1, .int (nI 0)), (0, .ref (ad 0))]) hx hb dL_isInOrder_5 rfl hl (by decide) rfl (fun ls hl => ?_)
  refine lv_aload_n hx hb dL_isInOrder_6 rfl (lv_at hl 3 rfl) ?_
  refine CtI.callV (n := 0) (q0 := 0) (ci := 2) (As := []) (rest := []) (ws' := wOo cyI cyZ ad wr hm u tr la) (o_cost l D cyI cyZ cyJ ad wr hm u tr la ) ⟨hx, hb, hown, hts⟩ gL_isInOrder_X2_cost rfl ⟨rfl, by decide, by decide, by decide +kernel⟩ ⟨Nat.le_of_ble_eq_true rfl, Nat.le_of_ble_eq_true rfl⟩ ⟨rfl, rfl⟩ hml hl.1 hK hP hD hS hA (ctJ_a (n := 14) (wOo_len _ _ _ _ _ _ _ _) (wOo_len _ _ _ _ _ _ _ _) rfl) (wOo_h _ _ _ _ _ _ _ _) ⟨rfl, rfl⟩ rfl rfl (Nat.le_of_ble_eq_true rfl) ⟨Nat.zero_le _, Nat.zero_le _⟩ dL_isInOrder_7 (fun H locs hP hD hS => ?_)
  refine lv_aload_n hx hb dL_isInOrder_10 rfl (lv_at hl 3 rfl) ?_
  refine CtI.callV (n := 0) (q0 := 0) (ci := 2) (As := []) (rest := [.int (cb_co u)]) (ws' := wOo cyI cyZ ad wr hm u tr la) (o_hits l D cyI cyZ cyJ ad wr hm u tr la ) ⟨hx, hb, hown, hts⟩ gL_isInOrder_X2_hits rfl ⟨rfl, by decide, by decide, by decide +kernel⟩ ⟨Nat.le_of_ble_eq_true rfl, Nat.le_of_ble_eq_true rfl⟩ ⟨rfl, rfl⟩ hml hl.1 hK hP hD hS hA (ctJ_a (n := 14) (wOo_len _ _ _ _ _ _ _ _) (wOo_len _ _ _ _ _ _ _ _) rfl) (wOo_h _ _ _ _ _ _ _ _) ⟨rfl, rfl⟩ rfl rfl (Nat.le_of_ble_eq_true rfl) ⟨Nat.zero_le _, Nat.zero_le _⟩ dL_isInOrder_11 (fun H locs hP hD hS => ?_)
  refine lv_iconst (v := nI 3) hx hb dL_isInOrder_14 (by decide) ?_
  refine lv_aload_n hx hb dL_isInOrder_15 rfl (lv_at hl 3 rfl) ?_
  refine CtI.callV (n := 0) (q0 := 0) (ci := 2) (As := []) (rest := [.int (nI 3), .int (cb_hi u), .int (cb_co u)]) (ws' := wOo cyI cyZ ad wr hm u tr la) (o_swaps l D cyI cyZ cyJ ad wr hm u tr la ) ⟨hx, hb, hown, hts⟩ gL_isInOrder_X2_swaps rfl ⟨rfl, by decide, by decide, by decide +kernel⟩ ⟨Nat.le_of_ble_eq_true rfl, Nat.le_of_ble_eq_true rfl⟩ ⟨rfl, rfl⟩ hml hl.1 hK hP hD hS hA (ctJ_a (n := 14) (wOo_len _ _ _ _ _ _ _ _) (wOo_len _ _ _ _ _ _ _ _) rfl) (wOo_h _ _ _ _ _ _ _ _) ⟨rfl, rfl⟩ rfl rfl (Nat.le_of_ble_eq_true rfl) ⟨Nat.zero_le _, Nat.zero_le _⟩ dL_isInOrder_16 (fun H locs hP hD hS => ?_)
  refine lv_imul (x := nI 3) (y := cb_sw u) hx hb dL_isInOrder_19 ?_
  refine lv_iadd (x := cb_hi u) (y := nI 3 * cb_sw u) hx hb dL_isInOrder_20 ?_
  refine lv_bipush (v := nI 20) hx hb dL_isInOrder_21 (by decide) ?_
  refine lv_aload_n hx hb dL_isInOrder_23 rfl (lv_at hl 3 rfl) ?_
  refine CtI.callV (n := 0) (q0 := 0) (ci := 2) (As := []) (rest := [.int (nI 20), .int (cb_hi u + (nI 3 * cb_sw u)), .int (cb_co u)]) (ws' := wOo cyI cyZ ad wr hm u tr la) (o_misses l D cyI cyZ cyJ ad wr hm u tr la ) ⟨hx, hb, hown, hts⟩ gL_isInOrder_X2_misses rfl ⟨rfl, by decide, by decide, by decide +kernel⟩ ⟨Nat.le_of_ble_eq_true rfl, Nat.le_of_ble_eq_true rfl⟩ ⟨rfl, rfl⟩ hml hl.1 hK hP hD hS hA (ctJ_a (n := 14) (wOo_len _ _ _ _ _ _ _ _) (wOo_len _ _ _ _ _ _ _ _) rfl) (wOo_h _ _ _ _ _ _ _ _) ⟨rfl, rfl⟩ rfl rfl (Nat.le_of_ble_eq_true rfl) ⟨Nat.zero_le _, Nat.zero_le _⟩ dL_isInOrder_24 (fun H locs hP hD hS => ?_)
  refine lv_imul (x := nI 20) (y := cb_mi u) hx hb dL_isInOrder_27 ?_
  refine lv_iadd (x := cb_hi u + (nI 3 * cb_sw u)) (y := nI 20 * cb_mi u) hx hb dL_isInOrder_28 ?_
  refine lv_bipush (v := nI 10) hx hb dL_isInOrder_29 (by decide) ?_
  refine lv_aload_n hx hb dL_isInOrder_31 rfl (lv_at hl 3 rfl) ?_
  refine CtI.callV (n := 0) (q0 := 0) (ci := 2) (As := []) (rest := [.int (nI 10), .int (cb_hi u + (nI 3 * cb_sw u) + (nI 20 * cb_mi u)), .int (cb_co u)]) (ws' := wOo cyI cyZ ad wr hm u tr la) (o_homecomings l D cyI cyZ cyJ ad wr hm u tr la ) ⟨hx, hb, hown, hts⟩ gL_isInOrder_X2_homecomings rfl ⟨rfl, by decide, by decide, by decide +kernel⟩ ⟨Nat.le_of_ble_eq_true rfl, Nat.le_of_ble_eq_true rfl⟩ ⟨rfl, rfl⟩ hml hl.1 hK hP hD hS hA (ctJ_a (n := 14) (wOo_len _ _ _ _ _ _ _ _) (wOo_len _ _ _ _ _ _ _ _) rfl) (wOo_h _ _ _ _ _ _ _ _) ⟨rfl, rfl⟩ rfl rfl (Nat.le_of_ble_eq_true rfl) ⟨Nat.zero_le _, Nat.zero_le _⟩ dL_isInOrder_32 (fun H locs hP hD hS => ?_)
  refine lv_imul (x := nI 10) (y := cb_hc u) hx hb dL_isInOrder_35 ?_
  refine lv_iadd (x := cb_hi u + (nI 3 * cb_sw u) + (nI 20 * cb_mi u)) (y := nI 10 * cb_hc u) hx hb dL_isInOrder_36 ?_
  refine lv_icmp_ne (x := cb_co u) (y := cb_hi u + (nI 3 * cb_sw u) + (nI 20 * cb_mi u) + (nI 10 * cb_hc u)) (tgt := 55) hx hb dL_isInOrder_37 (by decide) (fun c1 => ?_) (fun c1 => ?_)
  · exact absurd hcf c1
  · refine lv_aload_n hx hb dL_isInOrder_40 rfl (lv_at hl 3 rfl) ?_
    refine CtI.callV (n := 0) (q0 := 0) (ci := 2) (As := []) (rest := []) (ws' := wOo cyI cyZ ad wr hm u tr la) (o_sitting l D cyI cyZ cyJ ad wr hm u tr la ) ⟨hx, hb, hown, hts⟩ gL_isInOrder_X2_sitting rfl ⟨rfl, by decide, by decide, by decide +kernel⟩ ⟨Nat.le_of_ble_eq_true rfl, Nat.le_of_ble_eq_true rfl⟩ ⟨rfl, rfl⟩ hml hl.1 hK hP hD hS hA (ctJ_a (n := 14) (wOo_len _ _ _ _ _ _ _ _) (wOo_len _ _ _ _ _ _ _ _) rfl) (wOo_h _ _ _ _ _ _ _ _) ⟨rfl, rfl⟩ rfl rfl (Nat.le_of_ble_eq_true rfl) ⟨Nat.zero_le _, Nat.zero_le _⟩ dL_isInOrder_41 (fun H locs hP hD hS => ?_)
    refine lv_aload_n hx hb dL_isInOrder_44 rfl (lv_at hl 3 rfl) ?_
    refine CtI.callV (n := 0) (q0 := 0) (ci := 2) (As := []) (rest := [.int (nI u.2.2.2.2.1)]) (ws' := wOo cyI cyZ ad wr hm u tr la) (o_places l D cyI cyZ cyJ ad wr hm u tr la ) ⟨hx, hb, hown, hts⟩ gL_isInOrder_X2_places rfl ⟨rfl, by decide, by decide, by decide +kernel⟩ ⟨Nat.le_of_ble_eq_true rfl, Nat.le_of_ble_eq_true rfl⟩ ⟨rfl, rfl⟩ hml hl.1 hK hP hD hS hA (ctJ_a (n := 14) (wOo_len _ _ _ _ _ _ _ _) (wOo_len _ _ _ _ _ _ _ _) rfl) (wOo_h _ _ _ _ _ _ _ _) ⟨rfl, rfl⟩ rfl rfl (Nat.le_of_ble_eq_true rfl) ⟨Nat.zero_le _, Nat.zero_le _⟩ dL_isInOrder_45 (fun H locs hP hD hS => ?_)
    refine mq_gt (x := u.2.2.2.2.1) (y := u.2.1) (tgt := 55) (by omega) (by omega) hx hb dL_isInOrder_48 (by decide) (fun c2 => ?_) (fun c2 => ?_)
    · exact absurd c2 (by omega)
    · refine lv_iconst (v := nI 1) hx hb dL_isInOrder_51 (by decide) ?_
      refine lv_goto (tgt := 56) hx hb dL_isInOrder_52 (by decide) ?_
      refine lv_istore (lv' := [(4, .int (nI 1)), (3, .int (nI 0)), (2, .int (nI 0)), (1, .int (nI 0)), (0, .ref (ad 0))]) hx hb dL_isInOrder_56 hl (by decide) rfl (fun ls hl => ?_)
      refine lv_iconst (v := nI 0) hx hb dL_isInOrder_58 (by decide) ?_
      refine lv_istore (lv' := [(5, .int (nI 0)), (4, .int (nI 1)), (3, .int (nI 0)), (2, .int (nI 0)), (1, .int (nI 0)), (0, .ref (ad 0))]) hx hb dL_isInOrder_59 hl (by decide) rfl (fun ls hl => ?_)
      have LPa : ∀ (fu : Nat) (j : Nat) (H : Heap) (locs : List Loc) (ls : Array Slot), (j ≤ u.1) → u.1 - j < fu → va_P D vwCl (wOo cyI cyZ ad wr hm u tr la) H → va_D A (wOo cyI cyZ ad wr hm u tr la) → va_S A s.heap H locs → lv_has ls 8 [(0, .ref (ad 0)), (1, .int (nI (lnC u j))), (2, .int (nI 0)), (3, .int (nI 0)), (4, .int (nI 1)), (5, .int (nI j))] → W p l e rmL_isInOrder s m args below meth c H locs 0 0 Q (F0 m 61 ls []) := by
        intro fu
        induction fu with
        | zero =>
          intro j H locs ls hj hfu
          exact absurd hfu (Nat.not_lt_zero _)
        | succ fu iha =>
          intro j H locs ls hj hfua hP hD hS hl
          refine lv_iload hx hb dL_isInOrder_61 (lv_at hl 5 rfl) ?_
          refine lv_aload_n hx hb dL_isInOrder_63 rfl (lv_at hl 0 rfl) ?_
          refine CtI.callV (n := 0) (q0 := 0) (ci := 2) (As := []) (rest := [.int (nI j)]) (ws' := wOo cyI cyZ ad wr hm u tr la) (o_sets l D cyI cyZ cyJ ad wr hm u tr la ) ⟨hx, hb, hown, hts⟩ gL_isInOrder_X2_sets rfl ⟨rfl, by decide, by decide, by decide +kernel⟩ ⟨Nat.le_of_ble_eq_true rfl, Nat.le_of_ble_eq_true rfl⟩ ⟨rfl, rfl⟩ hml hl.1 hK hP hD hS hA (ctJ_a (n := 14) (wOo_len _ _ _ _ _ _ _ _) (wOo_len _ _ _ _ _ _ _ _) rfl) (wOo_h _ _ _ _ _ _ _ _) ⟨rfl, rfl⟩ rfl rfl (Nat.le_of_ble_eq_true rfl) ⟨Nat.zero_le _, Nat.zero_le _⟩ dL_isInOrder_64 (fun H locs hP hD hS => ?_)
          refine mq_ge (x := j) (y := u.1) (tgt := 136) (by omega) (by omega) hx hb dL_isInOrder_67 (by decide) (fun c8 => ?_) (fun c8 => ?_)
          · have hj2 : j = u.1 := by omega
            subst hj2
            refine lv_iconst (v := nI 0) hx hb dL_isInOrder_136 (by decide) ?_
            refine lv_istore (lv' := [(5, .int (nI 0)), (0, .ref (ad 0)), (1, .int (nI (lnC u u.1))), (2, .int (nI 0)), (3, .int (nI 0)), (4, .int (nI 1))]) hx hb dL_isInOrder_137 hl (by decide) rfl (fun ls hl => ?_)
            have LPb : ∀ (fu : Nat) (j : Nat) (H : Heap) (locs : List Loc) (ls : Array Slot), (j ≤ u.2.2.2.2.1) → u.2.2.2.2.1 - j < fu → va_P D vwCl (wOo cyI cyZ ad wr hm u tr la) H → va_D A (wOo cyI cyZ ad wr hm u tr la) → va_S A s.heap H locs → lv_has ls 8 [(0, .ref (ad 0)), (1, .int (nI (lnC u u.1))), (2, .int (nI 0)), (3, .int (nI 0)), (4, .int (nI 1)), (5, .int (nI j))] → W p l e rmL_isInOrder s m args below meth c H locs 0 0 Q (F0 m 139 ls []) := by
              intro fu
              induction fu with
              | zero =>
                intro j H locs ls hj hfu
                exact absurd hfu (Nat.not_lt_zero _)
              | succ fu ihb =>
                intro j H locs ls hj hfub hP hD hS hl
                refine lv_iload hx hb dL_isInOrder_139 (lv_at hl 5 rfl) ?_
                refine lv_aload_n hx hb dL_isInOrder_141 rfl (lv_at hl 0 rfl) ?_
                refine CtI.callV (n := 0) (q0 := 0) (ci := 2) (As := []) (rest := [.int (nI j)]) (ws' := wOo cyI cyZ ad wr hm u tr la) (o_sitting l D cyI cyZ cyJ ad wr hm u tr la ) ⟨hx, hb, hown, hts⟩ gL_isInOrder_X2_sitting rfl ⟨rfl, by decide, by decide, by decide +kernel⟩ ⟨Nat.le_of_ble_eq_true rfl, Nat.le_of_ble_eq_true rfl⟩ ⟨rfl, rfl⟩ hml hl.1 hK hP hD hS hA (ctJ_a (n := 14) (wOo_len _ _ _ _ _ _ _ _) (wOo_len _ _ _ _ _ _ _ _) rfl) (wOo_h _ _ _ _ _ _ _ _) ⟨rfl, rfl⟩ rfl rfl (Nat.le_of_ble_eq_true rfl) ⟨Nat.zero_le _, Nat.zero_le _⟩ dL_isInOrder_142 (fun H locs hP hD hS => ?_)
                refine mq_ge (x := j) (y := u.2.2.2.2.1) (tgt := 244) (by omega) (by omega) hx hb dL_isInOrder_145 (by decide) (fun c15 => ?_) (fun c15 => ?_)
                · rw [w1_none u] at hl
                  refine lv_iconst (v := nI 0) hx hb dL_isInOrder_244 (by decide) ?_
                  refine lv_istore (lv' := [(5, .int (nI 0)), (0, .ref (ad 0)), (1, .int (nI (lnC u u.1) - nI (w1C u 0))), (2, .int (nI 0)), (3, .int (nI 0)), (4, .int (nI 1))]) hx hb dL_isInOrder_245 hl (by decide) rfl (fun ls hl => ?_)
                  have LPc : ∀ (fu : Nat) (i : Nat) (H : Heap) (locs : List Loc) (ls : Array Slot), (i ≤ 256) → 256 - i < fu → va_P D vwCl (wOo cyI cyZ ad wr hm u tr la) H → va_D A (wOo cyI cyZ ad wr hm u tr la) → va_S A s.heap H locs → lv_has ls 8 [(0, .ref (ad 0)), (1, .int (nI (lnC u u.1) - nI (w1C u i))), (2, .int (nI (w2C u i))), (3, .int (nI (dtC u i))), (4, .int (nI 1)), (5, .int (nI i))] → W p l e rmL_isInOrder s m args below meth c H locs 0 0 Q (F0 m 247 ls []) := by
                    intro fu
                    induction fu with
                    | zero =>
                      intro i H locs ls hi hfu
                      exact absurd hfu (Nat.not_lt_zero _)
                    | succ fu ihc =>
                      intro i H locs ls hi hfuc hP hD hS hl
                      refine lv_iload hx hb dL_isInOrder_247 (lv_at hl 5 rfl) ?_
                      refine lv_sipush (v := nI 256) hx hb dL_isInOrder_249 (by decide) ?_
                      refine mq_ge (x := i) (y := 256) (tgt := 399) (by omega) (by omega) hx hb dL_isInOrder_252 (by decide) (fun c16 => ?_) (fun c16 => ?_)
                      · have hi2 : i = 256 := by omega
                        subst hi2
                        refine lv_iload hx hb dL_isInOrder_399 (lv_at hl 4 rfl) ?_
                        refine mq_z (x := 1) (tgt := 428) (by omega) hx hb dL_isInOrder_401 (by decide) (fun c17 => ?_) (fun c17 => ?_)
                        · exact absurd c17 (by decide)
                        · refine lv_iload_n hx hb dL_isInOrder_404 rfl (lv_at hl 1 rfl) ?_
                          refine lv_if_ne (x := nI (lnC u u.1) - nI (w1C u 256)) (tgt := 428) hx hb dL_isInOrder_405 (by decide) (fun c18 => ?_) (fun c18 => ?_)
                          · exact absurd (w1_all hk) c18
                          · refine lv_iload_n hx hb dL_isInOrder_408 rfl (lv_at hl 2 rfl) ?_
                            refine lv_aload_n hx hb dL_isInOrder_409 rfl (lv_at hl 0 rfl) ?_
                            refine CtI.callV (n := 0) (q0 := 0) (ci := 2) (As := []) (rest := [.int (nI (w2C u 256))]) (ws' := wOo cyI cyZ ad wr hm u tr la) (o_sitting l D cyI cyZ cyJ ad wr hm u tr la ) ⟨hx, hb, hown, hts⟩ gL_isInOrder_X2_sitting rfl ⟨rfl, by decide, by decide, by decide +kernel⟩ ⟨Nat.le_of_ble_eq_true rfl, Nat.le_of_ble_eq_true rfl⟩ ⟨rfl, rfl⟩ hml hl.1 hK hP hD hS hA (ctJ_a (n := 14) (wOo_len _ _ _ _ _ _ _ _) (wOo_len _ _ _ _ _ _ _ _) rfl) (wOo_h _ _ _ _ _ _ _ _) ⟨rfl, rfl⟩ rfl rfl (Nat.le_of_ble_eq_true rfl) ⟨Nat.zero_le _, Nat.zero_le _⟩ dL_isInOrder_410 (fun H locs hP hD hS => ?_)
                            refine mq_ne (x := (w2C u 256)) (y := u.2.2.2.2.1) (tgt := 428) (by have := w2C_le u 256; omega) (by omega) hx hb dL_isInOrder_413 (by decide) (fun c19 => ?_) (fun c19 => ?_)
                            · exact absurd (w2_all hk) c19
                            · refine lv_iload_n hx hb dL_isInOrder_416 rfl (lv_at hl 3 rfl) ?_
                              refine lv_aload_n hx hb dL_isInOrder_417 rfl (lv_at hl 0 rfl) ?_
                              refine CtI.callV (n := 0) (q0 := 0) (ci := 2) (As := []) (rest := [.int (nI (dtC u 256))]) (ws' := wOo cyI cyZ ad wr hm u tr la) (o_dirty l D cyI cyZ cyJ ad wr hm u tr la ) ⟨hx, hb, hown, hts⟩ gL_isInOrder_X2_dirty rfl ⟨rfl, by decide, by decide, by decide +kernel⟩ ⟨Nat.le_of_ble_eq_true rfl, Nat.le_of_ble_eq_true rfl⟩ ⟨rfl, rfl⟩ hml hl.1 hK hP hD hS hA (ctJ_a (n := 14) (wOo_len _ _ _ _ _ _ _ _) (wOo_len _ _ _ _ _ _ _ _) rfl) (wOo_h _ _ _ _ _ _ _ _) ⟨rfl, rfl⟩ rfl rfl (Nat.le_of_ble_eq_true rfl) ⟨Nat.zero_le _, Nat.zero_le _⟩ dL_isInOrder_418 (fun H locs hP hD hS => ?_)
                              refine mq_ne (x := (dtC u 256)) (y := (cb_dirty u)) (tgt := 428) (by have := dtC_le u 256; omega) (by have := dirty_256 u; omega) hx hb dL_isInOrder_421 (by decide) (fun c20 => ?_) (fun c20 => ?_)
                              · exact absurd (dt_all u) c20
                              · refine lv_iconst (v := nI 1) hx hb dL_isInOrder_424 (by decide) ?_
                                refine lv_goto (tgt := 429) hx hb dL_isInOrder_425 (by decide) ?_
                                exact CtI.zret hQ hx hb hr narrow_b1 hlk hK hP hD hS dL_isInOrder_429 rfl rfl
                      · have hw3 := where_lt i u
                        refine lv_aload_n hx hb dL_isInOrder_255 rfl (lv_at hl 0 rfl) ?_
                        refine lv_iload hx hb dL_isInOrder_256 (lv_at hl 5 rfl) ?_
                        refine CtI.callV (n := 1) (q0 := 0) (ci := 2) (As := [.int (nI i)]) (rest := []) (ws' := wOo cyI cyZ ad wr hm u tr la) (o_placeOf l D cyI cyZ cyJ ad wr hm u tr la i hbd (by omega)) ⟨hx, hb, hown, hts⟩ gL_isInOrder_X2_placeOf rfl ⟨rfl, by decide, by decide, by decide +kernel⟩ ⟨Nat.le_of_ble_eq_true rfl, Nat.le_of_ble_eq_true rfl⟩ ⟨rfl, rfl⟩ hml hl.1 hK hP hD hS hA (ctJ_a (n := 14) (wOo_len _ _ _ _ _ _ _ _) (wOo_len _ _ _ _ _ _ _ _) rfl) (wOo_h _ _ _ _ _ _ _ _) ⟨rfl, rfl⟩ rfl rfl (Nat.le_of_ble_eq_true rfl) ⟨Nat.zero_le _, Nat.zero_le _⟩ dL_isInOrder_258 (fun H locs hP hD hS => ?_)
                        refine lv_istore (lv' := [(6, .int (nI (cb_where i u))), (0, .ref (ad 0)), (1, .int (nI (lnC u u.1) - nI (w1C u i))), (2, .int (nI (w2C u i))), (3, .int (nI (dtC u i))), (4, .int (nI 1)), (5, .int (nI i))]) hx hb dL_isInOrder_261 hl (by decide) rfl (fun ls hl => ?_)
                        refine lv_iload_n hx hb dL_isInOrder_263 rfl (lv_at hl 2 rfl) ?_
                        refine lv_iload hx hb dL_isInOrder_264 (lv_at hl 0 rfl) ?_
                        refine lv_iconst (v := nI 1) hx hb dL_isInOrder_266 (by decide) ?_
                        have JN267 : ∀ x1 : Int32, x1 = (if cb_where i u = 1 then 1 else 0) → W p l e rmL_isInOrder s m args below meth c H locs 0 0 Q (F0 m 275 ls [.int x1, .int (nI (lnC u u.1) - nI (w1C u i))]) := by
                          intro x1 hx1
                          refine lv_isub (x := nI (lnC u u.1) - nI (w1C u i)) (y := x1) hx hb dL_isInOrder_275 ?_
                          rw [show ((nI (lnC u u.1) - nI (w1C u i)) - x1) = (nI (lnC u u.1) - nI (w1C u (i + 1))) from w1_step hx1]
                          refine lv_istore_n (lv' := [(1, .int (nI (lnC u u.1) - nI (w1C u (i + 1)))), (6, .int (nI (cb_where i u))), (0, .ref (ad 0)), (2, .int (nI (w2C u i))), (3, .int (nI (dtC u i))), (4, .int (nI 1)), (5, .int (nI i))]) hx hb dL_isInOrder_276 rfl hl (by decide) rfl (fun ls hl => ?_)
                          refine lv_iload_n hx hb dL_isInOrder_277 rfl (lv_at hl 3 rfl) ?_
                          refine lv_iload hx hb dL_isInOrder_278 (lv_at hl 1 rfl) ?_
                          refine lv_iconst (v := nI 2) hx hb dL_isInOrder_280 (by decide) ?_
                          have JN281 : ∀ x2 : Int32, x2 = (if cb_where i u = 2 then 1 else 0) → W p l e rmL_isInOrder s m args below meth c H locs 0 0 Q (F0 m 289 ls [.int x2, .int (nI (w2C u i))]) := by
                            intro x2 hx2
                            refine lv_iadd (x := nI (w2C u i)) (y := x2) hx hb dL_isInOrder_289 ?_
                            rw [show (nI (w2C u i) + x2) = nI (w2C u (i + 1)) from w2_step hx2]
                            refine lv_istore_n (lv' := [(2, .int (nI (w2C u (i + 1)))), (1, .int (nI (lnC u u.1) - nI (w1C u (i + 1)))), (6, .int (nI (cb_where i u))), (0, .ref (ad 0)), (3, .int (nI (dtC u i))), (4, .int (nI 1)), (5, .int (nI i))]) hx hb dL_isInOrder_290 rfl hl (by decide) rfl (fun ls hl => ?_)
                            refine lv_iload_n hx hb dL_isInOrder_291 rfl (lv_at hl 4 rfl) ?_
                            refine lv_aload_n hx hb dL_isInOrder_292 rfl (lv_at hl 3 rfl) ?_
                            refine lv_iload hx hb dL_isInOrder_293 (lv_at hl 6 rfl) ?_
                            refine CtI.callV (n := 1) (q0 := 0) (ci := 2) (As := [.int (nI i)]) (rest := [.int (nI (dtC u i))]) (ws' := wOo cyI cyZ ad wr hm u tr la) (o_isDirty l D cyI cyZ cyJ ad wr hm u tr la i (by omega)) ⟨hx, hb, hown, hts⟩ gL_isInOrder_X2_isDirty rfl ⟨rfl, by decide, by decide, by decide +kernel⟩ ⟨Nat.le_of_ble_eq_true rfl, Nat.le_of_ble_eq_true rfl⟩ ⟨rfl, rfl⟩ hml hl.1 hK hP hD hS hA (ctJ_a (n := 14) (wOo_len _ _ _ _ _ _ _ _) (wOo_len _ _ _ _ _ _ _ _) rfl) (wOo_h _ _ _ _ _ _ _ _) ⟨rfl, rfl⟩ rfl rfl (Nat.le_of_ble_eq_true rfl) ⟨Nat.zero_le _, Nat.zero_le _⟩ dL_isInOrder_295 (fun H locs hP hD hS => ?_)
                            have JN298 : ∀ x3 : Int32, x3 = (if cb_dt u i = true then 1 else 0) → W p l e rmL_isInOrder s m args below meth c H locs 0 0 Q (F0 m 306 ls [.int x3, .int (nI (dtC u i))]) := by
                              intro x3 hx3
                              refine lv_iadd (x := nI (dtC u i)) (y := x3) hx hb dL_isInOrder_306 ?_
                              rw [show (nI (dtC u i) + x3) = nI (dtC u (i + 1)) from dt_step hx3]
                              refine lv_istore_n (lv' := [(3, .int (nI (dtC u (i + 1)))), (2, .int (nI (w2C u (i + 1)))), (1, .int (nI (lnC u u.1) - nI (w1C u (i + 1)))), (6, .int (nI (cb_where i u))), (0, .ref (ad 0)), (4, .int (nI 1)), (5, .int (nI i))]) hx hb dL_isInOrder_307 rfl hl (by decide) rfl (fun ls hl => ?_)
                              refine lv_iload hx hb dL_isInOrder_308 (lv_at hl 5 rfl) ?_
                              refine mq_z (x := 1) (tgt := 331) (by omega) hx hb dL_isInOrder_310 (by decide) (fun c21 => ?_) (fun c21 => ?_)
                              · exact absurd c21 (by decide)
                              · have JN327 : ∀ (H : Heap) (locs : List Loc), va_P D vwCl (wOo cyI cyZ ad wr hm u tr la) H → va_D A (wOo cyI cyZ ad wr hm u tr la) → va_S A s.heap H locs → W p l e rmL_isInOrder s m args below meth c H locs 0 0 Q (F0 m 327 ls []) := by
                                  intro H locs hP hD hS
                                  refine lv_iconst (v := nI 1) hx hb dL_isInOrder_327 (by decide) ?_
                                  refine lv_goto (tgt := 332) hx hb dL_isInOrder_328 (by decide) ?_
                                  refine lv_istore (lv' := [(4, .int (nI 1)), (3, .int (nI (dtC u (i + 1)))), (2, .int (nI (w2C u (i + 1)))), (1, .int (nI (lnC u u.1) - nI (w1C u (i + 1)))), (6, .int (nI (cb_where i u))), (0, .ref (ad 0)), (5, .int (nI i))]) hx hb dL_isInOrder_332 hl (by decide) rfl (fun ls hl => ?_)
                                  refine lv_iconst (v := nI 4) hx hb dL_isInOrder_334 (by decide) ?_
                                  refine lv_iload hx hb dL_isInOrder_335 (lv_at hl 6 rfl) ?_
                                  refine mq_imul (x := 4) (y := i) hx hb dL_isInOrder_337 ?_
                                  refine lv_istore (lv' := [(7, .int (nI (4 * i))), (4, .int (nI 1)), (3, .int (nI (dtC u (i + 1)))), (2, .int (nI (w2C u (i + 1)))), (1, .int (nI (lnC u u.1) - nI (w1C u (i + 1)))), (6, .int (nI (cb_where i u))), (0, .ref (ad 0)), (5, .int (nI i))]) hx hb dL_isInOrder_338 hl (by decide) rfl (fun ls hl => ?_)
                                  have LPw : ∀ (fu : Nat) (w : Nat) (H : Heap) (locs : List Loc) (ls : Array Slot), (4 * i ≤ w) → (w ≤ 4 * i + 4) → 4 * i + 4 - w < fu → va_P D vwCl (wOo cyI cyZ ad wr hm u tr la) H → va_D A (wOo cyI cyZ ad wr hm u tr la) → va_S A s.heap H locs → lv_has ls 8 [(0, .ref (ad 0)), (1, .int (nI (lnC u u.1) - nI (w1C u (i + 1)))), (2, .int (nI (w2C u (i + 1)))), (3, .int (nI (dtC u (i + 1)))), (4, .int (nI 1)), (5, .int (nI i)), (7, .int (nI w))] → W p l e rmL_isInOrder s m args below meth c H locs 0 0 Q (F0 m 340 ls []) := by
                                    intro fu
                                    induction fu with
                                    | zero =>
                                      intro w H locs ls hw1 hw2 hfu
                                      exact absurd hfu (Nat.not_lt_zero _)
                                    | succ fu ihw =>
                                      intro w H locs ls hw1 hw2 hfuw hP hD hS hl
                                      refine lv_iload hx hb dL_isInOrder_340 (lv_at hl 6 rfl) ?_
                                      refine lv_iconst (v := nI 4) hx hb dL_isInOrder_342 (by decide) ?_
                                      refine lv_iload hx hb dL_isInOrder_343 (lv_at hl 5 rfl) ?_
                                      refine mq_imul (x := 4) (y := i) hx hb dL_isInOrder_345 ?_
                                      refine lv_iconst (v := nI 4) hx hb dL_isInOrder_346 (by decide) ?_
                                      refine mq_iadd (x := (4 * i)) (y := 4) hx hb dL_isInOrder_347 ?_
                                      refine mq_ge (x := w) (y := (4 * i + 4)) (tgt := 393) (by omega) (by omega) hx hb dL_isInOrder_348 (by decide) (fun c24 => ?_) (fun c24 => ?_)
                                      · refine lv_iinc (v := nI (i + 1)) (lv' := [(5, .int (nI (i + 1))), (0, .ref (ad 0)), (1, .int (nI (lnC u u.1) - nI (w1C u (i + 1)))), (2, .int (nI (w2C u (i + 1)))), (3, .int (nI (dtC u (i + 1)))), (4, .int (nI 1)), (7, .int (nI w))]) hx hb dL_isInOrder_393 hl (k := 5) rfl (inc1 _) (by decide) rfl (fun ls hl => ?_)
                                        refine lv_goto (tgt := 247) hx hb dL_isInOrder_396 (by decide) ?_
                                        exact ihc (i + 1) _ _ _ (by omega) (by omega) hP hD hS (lv_sub hl [1, 2, 3, 4, 5, 0] rfl)
                                      · refine lv_iload hx hb dL_isInOrder_351 (lv_at hl 4 rfl) ?_
                                        refine mq_z (x := 1) (tgt := 384) (by omega) hx hb dL_isInOrder_353 (by decide) (fun c25 => ?_) (fun c25 => ?_)
                                        · exact absurd c25 (by decide)
                                        · refine lv_aload_n hx hb dL_isInOrder_356 rfl (lv_at hl 0 rfl) ?_
                                          refine lv_iload hx hb dL_isInOrder_357 (lv_at hl 5 rfl) ?_
                                          refine CtI.callV (n := 1) (q0 := 0) (ci := 2) (As := [.int (nI i)]) (rest := []) (ws' := wOo cyI cyZ ad wr hm u tr la) (o_isDirty l D cyI cyZ cyJ ad wr hm u tr la i (by omega)) ⟨hx, hb, hown, hts⟩ gL_isInOrder_X2_isDirty rfl ⟨rfl, by decide, by decide, by decide +kernel⟩ ⟨Nat.le_of_ble_eq_true rfl, Nat.le_of_ble_eq_true rfl⟩ ⟨rfl, rfl⟩ hml hl.1 hK hP hD hS hA (ctJ_a (n := 14) (wOo_len _ _ _ _ _ _ _ _) (wOo_len _ _ _ _ _ _ _ _) rfl) (wOo_h _ _ _ _ _ _ _ _) ⟨rfl, rfl⟩ rfl rfl (Nat.le_of_ble_eq_true rfl) ⟨Nat.zero_le _, Nat.zero_le _⟩ dL_isInOrder_359 (fun H locs hP hD hS => ?_)
                                          refine mq_bnz (b := (cb_dt u i)) (tgt := 380) hx hb dL_isInOrder_362 (by decide) (fun c26 => ?_) (fun c26 => ?_)
                                          · refine lv_iconst (v := nI 1) hx hb dL_isInOrder_380 (by decide) ?_
                                            refine lv_goto (tgt := 385) hx hb dL_isInOrder_381 (by decide) ?_
                                            refine lv_istore (lv' := [(4, .int (nI 1)), (0, .ref (ad 0)), (1, .int (nI (lnC u u.1) - nI (w1C u (i + 1)))), (2, .int (nI (w2C u (i + 1)))), (3, .int (nI (dtC u (i + 1)))), (5, .int (nI i)), (7, .int (nI w))]) hx hb dL_isInOrder_385 hl (by decide) rfl (fun ls hl => ?_)
                                            refine lv_iinc (v := nI (w + 1)) (lv' := [(7, .int (nI (w + 1))), (4, .int (nI 1)), (0, .ref (ad 0)), (1, .int (nI (lnC u u.1) - nI (w1C u (i + 1)))), (2, .int (nI (w2C u (i + 1)))), (3, .int (nI (dtC u (i + 1)))), (5, .int (nI i))]) hx hb dL_isInOrder_387 hl (k := 6) rfl (inc1 _) (by decide) rfl (fun ls hl => ?_)
                                            refine lv_goto (tgt := 340) hx hb dL_isInOrder_390 (by decide) ?_
                                            exact ihw (w + 1) _ _ _ (by omega) (by omega) (by omega) hP hD hS (lv_sub hl [2, 3, 4, 5, 1, 6, 0] rfl)
                                          · refine lv_aload_n hx hb dL_isInOrder_365 rfl (lv_at hl 0 rfl) ?_
                                            refine lv_iload hx hb dL_isInOrder_366 (lv_at hl 6 rfl) ?_
                                            refine CtI.callV (n := 1) (q0 := 0) (ci := 2) (As := [.int (nI w)]) (rest := []) (ws' := wOo cyI cyZ ad wr hm u tr la) (o_atHome l D cyI cyZ cyJ ad wr hm u tr la w (by omega)) ⟨hx, hb, hown, hts⟩ gL_isInOrder_X2_atHome rfl ⟨rfl, by decide, by decide, by decide +kernel⟩ ⟨Nat.le_of_ble_eq_true rfl, Nat.le_of_ble_eq_true rfl⟩ ⟨rfl, rfl⟩ hml hl.1 hK hP hD hS hA (ctJ_a (n := 14) (wOo_len _ _ _ _ _ _ _ _) (wOo_len _ _ _ _ _ _ _ _) rfl) (wOo_h _ _ _ _ _ _ _ _) ⟨rfl, rfl⟩ rfl rfl (Nat.le_of_ble_eq_true rfl) ⟨Nat.zero_le _, Nat.zero_le _⟩ dL_isInOrder_368 (fun H locs hP hD hS => ?_)
                                            refine lv_aload_n hx hb dL_isInOrder_371 rfl (lv_at hl 0 rfl) ?_
                                            refine lv_iload hx hb dL_isInOrder_372 (lv_at hl 6 rfl) ?_
                                            refine CtI.callV (n := 1) (q0 := 0) (ci := 2) (As := [.int (nI w)]) (rest := [.int (if cb_dt u (w / 4) = true then hm w else wr w)]) (ws' := wOo cyI cyZ ad wr hm u tr la) (o_peek l D cyI cyZ cyJ ad wr hm u tr la w (by omega)) ⟨hx, hb, hown, hts⟩ gL_isInOrder_X2_peek rfl ⟨rfl, by decide, by decide, by decide +kernel⟩ ⟨Nat.le_of_ble_eq_true rfl, Nat.le_of_ble_eq_true rfl⟩ ⟨rfl, rfl⟩ hml hl.1 hK hP hD hS hA (ctJ_a (n := 14) (wOo_len _ _ _ _ _ _ _ _) (wOo_len _ _ _ _ _ _ _ _) rfl) (wOo_h _ _ _ _ _ _ _ _) ⟨rfl, rfl⟩ rfl rfl (Nat.le_of_ble_eq_true rfl) ⟨Nat.zero_le _, Nat.zero_le _⟩ dL_isInOrder_374 (fun H locs hP hD hS => ?_)
                                            refine lv_icmp_ne (x := (if cb_dt u (w / 4) = true then hm w else wr w)) (y := wr w) (tgt := 384) hx hb dL_isInOrder_377 (by decide) (fun c27 => ?_) (fun c27 => ?_)
                                            · exact absurd (by rw [show w / 4 = i by omega, if_neg (by rw [c26]; exact Bool.false_ne_true)]) c27
                                            · refine lv_iconst (v := nI 1) hx hb dL_isInOrder_380 (by decide) ?_
                                              refine lv_goto (tgt := 385) hx hb dL_isInOrder_381 (by decide) ?_
                                              refine lv_istore (lv' := [(4, .int (nI 1)), (0, .ref (ad 0)), (1, .int (nI (lnC u u.1) - nI (w1C u (i + 1)))), (2, .int (nI (w2C u (i + 1)))), (3, .int (nI (dtC u (i + 1)))), (5, .int (nI i)), (7, .int (nI w))]) hx hb dL_isInOrder_385 hl (by decide) rfl (fun ls hl => ?_)
                                              refine lv_iinc (v := nI (w + 1)) (lv' := [(7, .int (nI (w + 1))), (4, .int (nI 1)), (0, .ref (ad 0)), (1, .int (nI (lnC u u.1) - nI (w1C u (i + 1)))), (2, .int (nI (w2C u (i + 1)))), (3, .int (nI (dtC u (i + 1)))), (5, .int (nI i))]) hx hb dL_isInOrder_387 hl (k := 6) rfl (inc1 _) (by decide) rfl (fun ls hl => ?_)
                                              refine lv_goto (tgt := 340) hx hb dL_isInOrder_390 (by decide) ?_
                                              exact ihw (w + 1) _ _ _ (by omega) (by omega) (by omega) hP hD hS (lv_sub hl [2, 3, 4, 5, 1, 6, 0] rfl)
                                  exact LPw _ (4 * i) _ _ _ (Nat.le_refl _) (by omega) (Nat.lt_succ_self _) hP hD hS (lv_sub hl [6, 4, 3, 2, 1, 7, 0] rfl)
                                refine lv_iload hx hb dL_isInOrder_313 (lv_at hl 3 rfl) ?_
                                refine lv_if_gt (x := nI (cb_where i u)) (tgt := 327) hx hb dL_isInOrder_315 (by decide) (fun c22 => ?_) (fun c22 => ?_)
                                · exact JN327 _ _ hP hD hS
                                · have hw0 : cb_where i u = 0 := by
                                    rcases hw3 with h | h | h
                                    · exact h
                                    · exact absurd (by rw [h]; decide) c22
                                    · exact absurd (by rw [h]; decide) c22
                                  refine lv_aload_n hx hb dL_isInOrder_318 rfl (lv_at hl 4 rfl) ?_
                                  refine lv_iload hx hb dL_isInOrder_319 (lv_at hl 6 rfl) ?_
                                  refine CtI.callV (n := 1) (q0 := 0) (ci := 2) (As := [.int (nI i)]) (rest := []) (ws' := wOo cyI cyZ ad wr hm u tr la) (o_isDirty l D cyI cyZ cyJ ad wr hm u tr la i (by omega)) ⟨hx, hb, hown, hts⟩ gL_isInOrder_X2_isDirty rfl ⟨rfl, by decide, by decide, by decide +kernel⟩ ⟨Nat.le_of_ble_eq_true rfl, Nat.le_of_ble_eq_true rfl⟩ ⟨rfl, rfl⟩ hml hl.1 hK hP hD hS hA (ctJ_a (n := 14) (wOo_len _ _ _ _ _ _ _ _) (wOo_len _ _ _ _ _ _ _ _) rfl) (wOo_h _ _ _ _ _ _ _ _) ⟨rfl, rfl⟩ rfl rfl (Nat.le_of_ble_eq_true rfl) ⟨Nat.zero_le _, Nat.zero_le _⟩ dL_isInOrder_321 (fun H locs hP hD hS => ?_)
                                  refine mq_bnz (b := (cb_dt u i)) (tgt := 331) hx hb dL_isInOrder_324 (by decide) (fun c23 => ?_) (fun c23 => ?_)
                                  · exact absurd c23 (by rw [where_0 hk (by omega) hw0]; decide)
                                  · exact JN327 _ _ hP hD hS
                            refine mq_bz (b := (cb_dt u i)) (tgt := 305) hx hb dL_isInOrder_298 (by decide) (fun b3 => ?_) (fun b3 => ?_)
                            · refine lv_iconst (v := nI 0) hx hb dL_isInOrder_305 (by decide) ?_
                              exact JN298 _ (by rw [if_neg (by rw [b3]; exact Bool.false_ne_true)]; rfl)
                            · refine lv_iconst (v := nI 1) hx hb dL_isInOrder_301 (by decide) ?_
                              refine lv_goto (tgt := 306) hx hb dL_isInOrder_302 (by decide) ?_
                              exact JN298 _ (by rw [if_pos b3]; rfl)
                          refine mq_ne (x := (cb_where i u)) (y := 2) (tgt := 288) (by omega) (by omega) hx hb dL_isInOrder_281 (by decide) (fun b2 => ?_) (fun b2 => ?_)
                          · refine lv_iconst (v := nI 0) hx hb dL_isInOrder_288 (by decide) ?_
                            exact JN281 _ (by rw [if_neg b2]; rfl)
                          · refine lv_iconst (v := nI 1) hx hb dL_isInOrder_284 (by decide) ?_
                            refine lv_goto (tgt := 289) hx hb dL_isInOrder_285 (by decide) ?_
                            exact JN281 _ (by rw [if_pos b2]; rfl)
                        refine mq_ne (x := (cb_where i u)) (y := 1) (tgt := 274) (by omega) (by omega) hx hb dL_isInOrder_267 (by decide) (fun b1 => ?_) (fun b1 => ?_)
                        · refine lv_iconst (v := nI 0) hx hb dL_isInOrder_274 (by decide) ?_
                          exact JN267 _ (by rw [if_neg b1]; rfl)
                        · refine lv_iconst (v := nI 1) hx hb dL_isInOrder_270 (by decide) ?_
                          refine lv_goto (tgt := 275) hx hb dL_isInOrder_271 (by decide) ?_
                          exact JN267 _ (by rw [if_pos b1]; rfl)
                  exact LPc _ 0 _ _ _ (Nat.zero_le _) (Nat.lt_succ_self _) hP hD hS (lv_sub hl [1, 2, 3, 4, 5, 0] rfl)
                · obtain ⟨hq1, hq2, hq3⟩ := ok_bench (k := u.2.2.2.2.1 - 1 - j) hk (by omega)
                  have hm1 := Nat.mod_lt (u.2.2.2.1 (u.2.2.2.2.1 - 1 - j)) (show 0 < u.1 by omega)
                  refine lv_aload_n hx hb dL_isInOrder_148 rfl (lv_at hl 0 rfl) ?_
                  refine lv_iload hx hb dL_isInOrder_149 (lv_at hl 5 rfl) ?_
                  refine CtI.callV (n := 1) (q0 := 0) (ci := 2) (As := [.int (nI j)]) (rest := []) (ws' := wOo cyI cyZ ad wr hm u tr la) (o_lineOnBench l D cyI cyZ cyJ ad wr hm u tr la j hbd (by omega)) ⟨hx, hb, hown, hts⟩ gL_isInOrder_X2_lineOnBench rfl ⟨rfl, by decide, by decide, by decide +kernel⟩ ⟨Nat.le_of_ble_eq_true rfl, Nat.le_of_ble_eq_true rfl⟩ ⟨rfl, rfl⟩ hml hl.1 hK hP hD hS hA (ctJ_a (n := 14) (wOo_len _ _ _ _ _ _ _ _) (wOo_len _ _ _ _ _ _ _ _) rfl) (wOo_h _ _ _ _ _ _ _ _) ⟨rfl, rfl⟩ rfl rfl (Nat.le_of_ble_eq_true rfl) ⟨Nat.zero_le _, Nat.zero_le _⟩ dL_isInOrder_151 (fun H locs hP hD hS => ?_)
                  refine lv_istore (lv' := [(6, .int (nI (u.2.2.2.1 (u.2.2.2.2.1 - 1 - j)))), (0, .ref (ad 0)), (1, .int (nI (lnC u u.1))), (2, .int (nI 0)), (3, .int (nI 0)), (4, .int (nI 1)), (5, .int (nI j))]) hx hb dL_isInOrder_154 hl (by decide) rfl (fun ls hl => ?_)
                  refine lv_iload hx hb dL_isInOrder_156 (lv_at hl 5 rfl) ?_
                  refine mq_z (x := 1) (tgt := 191) (by omega) hx hb dL_isInOrder_158 (by decide) (fun c9 => ?_) (fun c9 => ?_)
                  · exact absurd c9 (by decide)
                  · refine lv_aload_n hx hb dL_isInOrder_161 rfl (lv_at hl 1 rfl) ?_
                    refine lv_iload hx hb dL_isInOrder_162 (lv_at hl 0 rfl) ?_
                    refine CtI.callV (n := 1) (q0 := 0) (ci := 2) (As := [.int (nI (u.2.2.2.1 (u.2.2.2.2.1 - 1 - j)))]) (rest := []) (ws' := wOo cyI cyZ ad wr hm u tr la) (o_placeOf l D cyI cyZ cyJ ad wr hm u tr la (u.2.2.2.1 (u.2.2.2.2.1 - 1 - j)) hbd (by omega)) ⟨hx, hb, hown, hts⟩ gL_isInOrder_X2_placeOf rfl ⟨rfl, by decide, by decide, by decide +kernel⟩ ⟨Nat.le_of_ble_eq_true rfl, Nat.le_of_ble_eq_true rfl⟩ ⟨rfl, rfl⟩ hml hl.1 hK hP hD hS hA (ctJ_a (n := 14) (wOo_len _ _ _ _ _ _ _ _) (wOo_len _ _ _ _ _ _ _ _) rfl) (wOo_h _ _ _ _ _ _ _ _) ⟨rfl, rfl⟩ rfl rfl (Nat.le_of_ble_eq_true rfl) ⟨Nat.zero_le _, Nat.zero_le _⟩ dL_isInOrder_164 (fun H locs hP hD hS => ?_)
                    refine lv_iconst (v := nI 2) hx hb dL_isInOrder_167 (by decide) ?_
                    refine mq_ne (x := (cb_where (u.2.2.2.1 (u.2.2.2.2.1 - 1 - j)) u)) (y := 2) (tgt := 191) (by omega) (by omega) hx hb dL_isInOrder_168 (by decide) (fun c10 => ?_) (fun c10 => ?_)
                    · exact absurd hq2 c10
                    · refine lv_aload_n hx hb dL_isInOrder_171 rfl (lv_at hl 1 rfl) ?_
                      refine lv_iload hx hb dL_isInOrder_172 (lv_at hl 0 rfl) ?_
                      refine lv_aload_n hx hb dL_isInOrder_174 rfl (lv_at hl 1 rfl) ?_
                      refine CtI.callV (n := 0) (q0 := 0) (ci := 2) (As := []) (rest := [.int (nI (u.2.2.2.1 (u.2.2.2.2.1 - 1 - j))), .ref (ad 0)]) (ws' := wOo cyI cyZ ad wr hm u tr la) (o_sets l D cyI cyZ cyJ ad wr hm u tr la ) ⟨hx, hb, hown, hts⟩ gL_isInOrder_X2_sets rfl ⟨rfl, by decide, by decide, by decide +kernel⟩ ⟨Nat.le_of_ble_eq_true rfl, Nat.le_of_ble_eq_true rfl⟩ ⟨rfl, rfl⟩ hml hl.1 hK hP hD hS hA (ctJ_a (n := 14) (wOo_len _ _ _ _ _ _ _ _) (wOo_len _ _ _ _ _ _ _ _) rfl) (wOo_h _ _ _ _ _ _ _ _) ⟨rfl, rfl⟩ rfl rfl (Nat.le_of_ble_eq_true rfl) ⟨Nat.zero_le _, Nat.zero_le _⟩ dL_isInOrder_175 (fun H locs hP hD hS => ?_)
                      refine mq_irem (x := (u.2.2.2.1 (u.2.2.2.2.1 - 1 - j))) (y := u.1) (by omega) (by omega) (by omega) hx hb dL_isInOrder_178 ?_
                      refine CtI.callV (n := 1) (q0 := 0) (ci := 2) (As := [.int (nI ((u.2.2.2.1 (u.2.2.2.2.1 - 1 - j)) % u.1))]) (rest := []) (ws' := wOo cyI cyZ ad wr hm u tr la) (o_lineIn l D cyI cyZ cyJ ad wr hm u tr la ((u.2.2.2.1 (u.2.2.2.2.1 - 1 - j)) % u.1) hbd (by omega)) ⟨hx, hb, hown, hts⟩ gL_isInOrder_X2_lineIn rfl ⟨rfl, by decide, by decide, by decide +kernel⟩ ⟨Nat.le_of_ble_eq_true rfl, Nat.le_of_ble_eq_true rfl⟩ ⟨rfl, rfl⟩ hml hl.1 hK hP hD hS hA (ctJ_a (n := 14) (wOo_len _ _ _ _ _ _ _ _) (wOo_len _ _ _ _ _ _ _ _) rfl) (wOo_h _ _ _ _ _ _ _ _) ⟨rfl, rfl⟩ rfl rfl (Nat.le_of_ble_eq_true rfl) ⟨Nat.zero_le _, Nat.zero_le _⟩ dL_isInOrder_179 (fun H locs hP hD hS => ?_)
                      refine lv_iload hx hb dL_isInOrder_182 (lv_at hl 0 rfl) ?_
                      refine lv_icmp_eq (x := oI (cb_ln u ((u.2.2.2.1 (u.2.2.2.2.1 - 1 - j)) % u.1))) (y := nI (u.2.2.2.1 (u.2.2.2.2.1 - 1 - j))) (tgt := 191) hx hb dL_isInOrder_184 (by decide) (fun c11 => ?_) (fun c11 => ?_)
                      · exact absurd c11 (oI_ne hk hq1 hq3)
                      · refine lv_iconst (v := nI 1) hx hb dL_isInOrder_187 (by decide) ?_
                        refine lv_goto (tgt := 192) hx hb dL_isInOrder_188 (by decide) ?_
                        refine lv_istore (lv' := [(4, .int (nI 1)), (6, .int (nI (u.2.2.2.1 (u.2.2.2.2.1 - 1 - j)))), (0, .ref (ad 0)), (1, .int (nI (lnC u u.1))), (2, .int (nI 0)), (3, .int (nI 0)), (5, .int (nI j))]) hx hb dL_isInOrder_192 hl (by decide) rfl (fun ls hl => ?_)
                        refine lv_iload hx hb dL_isInOrder_194 (lv_at hl 6 rfl) ?_
                        refine lv_iconst (v := nI 1) hx hb dL_isInOrder_196 (by decide) ?_
                        refine mq_iadd (x := j) (y := 1) hx hb dL_isInOrder_197 ?_
                        refine lv_istore (lv' := [(7, .int (nI (j + 1))), (4, .int (nI 1)), (6, .int (nI (u.2.2.2.1 (u.2.2.2.2.1 - 1 - j)))), (0, .ref (ad 0)), (1, .int (nI (lnC u u.1))), (2, .int (nI 0)), (3, .int (nI 0)), (5, .int (nI j))]) hx hb dL_isInOrder_198 hl (by decide) rfl (fun ls hl => ?_)
                        have LPk : ∀ (fu : Nat) (k : Nat) (H : Heap) (locs : List Loc) (ls : Array Slot), (j < k) → (k ≤ u.2.2.2.2.1) → u.2.2.2.2.1 - k < fu → va_P D vwCl (wOo cyI cyZ ad wr hm u tr la) H → va_D A (wOo cyI cyZ ad wr hm u tr la) → va_S A s.heap H locs → lv_has ls 8 [(0, .ref (ad 0)), (1, .int (nI (lnC u u.1))), (2, .int (nI 0)), (3, .int (nI 0)), (4, .int (nI 1)), (5, .int (nI j)), (6, .int (nI (u.2.2.2.1 (u.2.2.2.2.1 - 1 - j)))), (7, .int (nI k))] → W p l e rmL_isInOrder s m args below meth c H locs 0 0 Q (F0 m 200 ls []) := by
                          intro fu
                          induction fu with
                          | zero =>
                            intro k H locs ls hk1 hk2 hfu
                            exact absurd hfu (Nat.not_lt_zero _)
                          | succ fu ihk =>
                            intro k H locs ls hk1 hk2 hfuk hP hD hS hl
                            refine lv_iload hx hb dL_isInOrder_200 (lv_at hl 7 rfl) ?_
                            refine lv_aload_n hx hb dL_isInOrder_202 rfl (lv_at hl 0 rfl) ?_
                            refine CtI.callV (n := 0) (q0 := 0) (ci := 2) (As := []) (rest := [.int (nI k)]) (ws' := wOo cyI cyZ ad wr hm u tr la) (o_sitting l D cyI cyZ cyJ ad wr hm u tr la ) ⟨hx, hb, hown, hts⟩ gL_isInOrder_X2_sitting rfl ⟨rfl, by decide, by decide, by decide +kernel⟩ ⟨Nat.le_of_ble_eq_true rfl, Nat.le_of_ble_eq_true rfl⟩ ⟨rfl, rfl⟩ hml hl.1 hK hP hD hS hA (ctJ_a (n := 14) (wOo_len _ _ _ _ _ _ _ _) (wOo_len _ _ _ _ _ _ _ _) rfl) (wOo_h _ _ _ _ _ _ _ _) ⟨rfl, rfl⟩ rfl rfl (Nat.le_of_ble_eq_true rfl) ⟨Nat.zero_le _, Nat.zero_le _⟩ dL_isInOrder_203 (fun H locs hP hD hS => ?_)
                            refine mq_ge (x := k) (y := u.2.2.2.2.1) (tgt := 238) (by omega) (by omega) hx hb dL_isInOrder_206 (by decide) (fun c12 => ?_) (fun c12 => ?_)
                            · refine lv_iinc (v := nI (j + 1)) (lv' := [(5, .int (nI (j + 1))), (0, .ref (ad 0)), (1, .int (nI (lnC u u.1))), (2, .int (nI 0)), (3, .int (nI 0)), (4, .int (nI 1)), (6, .int (nI (u.2.2.2.1 (u.2.2.2.2.1 - 1 - j)))), (7, .int (nI k))]) hx hb dL_isInOrder_238 hl (k := 5) rfl (inc1 _) (by decide) rfl (fun ls hl => ?_)
                              refine lv_goto (tgt := 139) hx hb dL_isInOrder_241 (by decide) ?_
                              exact ihb (j + 1) _ _ _ (by omega) (by omega) hP hD hS (lv_sub hl [1, 2, 3, 4, 5, 0] rfl)
                            · refine lv_iload hx hb dL_isInOrder_209 (lv_at hl 4 rfl) ?_
                              refine mq_z (x := 1) (tgt := 229) (by omega) hx hb dL_isInOrder_211 (by decide) (fun c13 => ?_) (fun c13 => ?_)
                              · exact absurd c13 (by decide)
                              · refine lv_aload_n hx hb dL_isInOrder_214 rfl (lv_at hl 0 rfl) ?_
                                refine lv_iload hx hb dL_isInOrder_215 (lv_at hl 7 rfl) ?_
                                refine CtI.callV (n := 1) (q0 := 0) (ci := 2) (As := [.int (nI k)]) (rest := []) (ws' := wOo cyI cyZ ad wr hm u tr la) (o_lineOnBench l D cyI cyZ cyJ ad wr hm u tr la k hbd (by omega)) ⟨hx, hb, hown, hts⟩ gL_isInOrder_X2_lineOnBench rfl ⟨rfl, by decide, by decide, by decide +kernel⟩ ⟨Nat.le_of_ble_eq_true rfl, Nat.le_of_ble_eq_true rfl⟩ ⟨rfl, rfl⟩ hml hl.1 hK hP hD hS hA (ctJ_a (n := 14) (wOo_len _ _ _ _ _ _ _ _) (wOo_len _ _ _ _ _ _ _ _) rfl) (wOo_h _ _ _ _ _ _ _ _) ⟨rfl, rfl⟩ rfl rfl (Nat.le_of_ble_eq_true rfl) ⟨Nat.zero_le _, Nat.zero_le _⟩ dL_isInOrder_217 (fun H locs hP hD hS => ?_)
                                refine lv_iload hx hb dL_isInOrder_220 (lv_at hl 6 rfl) ?_
                                refine mq_eq (x := (u.2.2.2.1 (u.2.2.2.2.1 - 1 - k))) (y := (u.2.2.2.1 (u.2.2.2.2.1 - 1 - j))) (tgt := 229) (by have := (ok_bench (k := u.2.2.2.2.1 - 1 - k) hk (by omega)).1; omega) (by omega) hx hb dL_isInOrder_222 (by decide) (fun c14 => ?_) (fun c14 => ?_)
                                · exact absurd c14 (ok_twice hk (by omega) (by omega) (by omega))
                                · refine lv_iconst (v := nI 1) hx hb dL_isInOrder_225 (by decide) ?_
                                  refine lv_goto (tgt := 230) hx hb dL_isInOrder_226 (by decide) ?_
                                  refine lv_istore (lv' := [(4, .int (nI 1)), (0, .ref (ad 0)), (1, .int (nI (lnC u u.1))), (2, .int (nI 0)), (3, .int (nI 0)), (5, .int (nI j)), (6, .int (nI (u.2.2.2.1 (u.2.2.2.2.1 - 1 - j)))), (7, .int (nI k))]) hx hb dL_isInOrder_230 hl (by decide) rfl (fun ls hl => ?_)
                                  refine lv_iinc (v := nI (k + 1)) (lv' := [(7, .int (nI (k + 1))), (4, .int (nI 1)), (0, .ref (ad 0)), (1, .int (nI (lnC u u.1))), (2, .int (nI 0)), (3, .int (nI 0)), (5, .int (nI j)), (6, .int (nI (u.2.2.2.1 (u.2.2.2.2.1 - 1 - j))))]) hx hb dL_isInOrder_232 hl (k := 7) rfl (inc1 _) (by decide) rfl (fun ls hl => ?_)
                                  refine lv_goto (tgt := 200) hx hb dL_isInOrder_235 (by decide) ?_
                                  exact ihk (k + 1) _ _ _ (by omega) (by omega) (by omega) hP hD hS (lv_sub hl [2, 3, 4, 5, 1, 6, 7, 0] rfl)
                        exact LPk _ (j + 1) _ _ _ (by omega) (by omega) (Nat.lt_succ_self _) hP hD hS (lv_sub hl [3, 4, 5, 6, 1, 7, 2, 0] rfl)
            exact LPb _ 0 _ _ _ (Nat.zero_le _) (Nat.lt_succ_self _) hP hD hS (lv_sub hl [1, 2, 3, 4, 5, 0] rfl)
          · refine lv_aload_n hx hb dL_isInOrder_70 rfl (lv_at hl 0 rfl) ?_
            refine lv_iload hx hb dL_isInOrder_71 (lv_at hl 5 rfl) ?_
            refine CtI.callV (n := 1) (q0 := 0) (ci := 2) (As := [.int (nI j)]) (rest := []) (ws' := wOo cyI cyZ ad wr hm u tr la) (o_lineIn l D cyI cyZ cyJ ad wr hm u tr la j hbd (by omega)) ⟨hx, hb, hown, hts⟩ gL_isInOrder_X2_lineIn rfl ⟨rfl, by decide, by decide, by decide +kernel⟩ ⟨Nat.le_of_ble_eq_true rfl, Nat.le_of_ble_eq_true rfl⟩ ⟨rfl, rfl⟩ hml hl.1 hK hP hD hS hA (ctJ_a (n := 14) (wOo_len _ _ _ _ _ _ _ _) (wOo_len _ _ _ _ _ _ _ _) rfl) (wOo_h _ _ _ _ _ _ _ _) ⟨rfl, rfl⟩ rfl rfl (Nat.le_of_ble_eq_true rfl) ⟨Nat.zero_le _, Nat.zero_le _⟩ dL_isInOrder_73 (fun H locs hP hD hS => ?_)
            rcases hln : cb_ln u j with _ | q
            · refine lv_istore (lv' := [(6, .int (-1)), (0, .ref (ad 0)), (1, .int (nI (lnC u j))), (2, .int (nI 0)), (3, .int (nI 0)), (4, .int (nI 1)), (5, .int (nI j))]) hx hb dL_isInOrder_76 hl (by decide) rfl (fun ls hl => ?_)
              refine lv_iload_n hx hb dL_isInOrder_78 rfl (lv_at hl 2 rfl) ?_
              refine lv_iload hx hb dL_isInOrder_79 (lv_at hl 0 rfl) ?_
              refine lv_if_lt (x := -1) (tgt := 88) hx hb dL_isInOrder_81 (by decide) (fun c3 => ?_) (fun c3 => ?_)
              · refine lv_iconst (v := nI 0) hx hb dL_isInOrder_88 (by decide) ?_
                refine mq_iadd (x := (lnC u j)) (y := 0) hx hb dL_isInOrder_89 ?_
                rw [show nI (lnC u j + 0) = nI (lnC u (j + 1)) from (by rw [lnC_none hln]; rfl)]
                refine lv_istore_n (lv' := [(1, .int (nI (lnC u (j + 1)))), (6, .int (-1)), (0, .ref (ad 0)), (2, .int (nI 0)), (3, .int (nI 0)), (4, .int (nI 1)), (5, .int (nI j))]) hx hb dL_isInOrder_90 rfl hl (by decide) rfl (fun ls hl => ?_)
                refine lv_iload hx hb dL_isInOrder_91 (lv_at hl 5 rfl) ?_
                refine mq_z (x := 1) (tgt := 127) (by omega) hx hb dL_isInOrder_93 (by decide) (fun c4 => ?_) (fun c4 => ?_)
                · exact absurd c4 (by decide)
                · refine lv_iload hx hb dL_isInOrder_96 (lv_at hl 1 rfl) ?_
                  refine lv_if_lt (x := -1) (tgt := 123) hx hb dL_isInOrder_98 (by decide) (fun c5 => ?_) (fun c5 => ?_)
                  · refine lv_iconst (v := nI 1) hx hb dL_isInOrder_123 (by decide) ?_
                    refine lv_goto (tgt := 128) hx hb dL_isInOrder_124 (by decide) ?_
                    refine lv_istore (lv' := [(4, .int (nI 1)), (1, .int (nI (lnC u (j + 1)))), (6, .int (-1)), (0, .ref (ad 0)), (2, .int (nI 0)), (3, .int (nI 0)), (5, .int (nI j))]) hx hb dL_isInOrder_128 hl (by decide) rfl (fun ls hl => ?_)
                    refine lv_iinc (v := nI (j + 1)) (lv' := [(5, .int (nI (j + 1))), (4, .int (nI 1)), (1, .int (nI (lnC u (j + 1)))), (6, .int (-1)), (0, .ref (ad 0)), (2, .int (nI 0)), (3, .int (nI 0))]) hx hb dL_isInOrder_130 hl (k := 6) rfl (inc1 _) (by decide) rfl (fun ls hl => ?_)
                    refine lv_goto (tgt := 61) hx hb dL_isInOrder_133 (by decide) ?_
                    exact iha (j + 1) _ _ _ (by omega) (by omega) hP hD hS (lv_sub hl [4, 2, 5, 6, 1, 0] rfl)
                  · exact absurd (by decide) c5
              · exact absurd (by decide) c3
            · obtain ⟨hq1, hq2, hq3⟩ := ok_line hk hln
              refine lv_istore (lv' := [(6, .int (nI q)), (0, .ref (ad 0)), (1, .int (nI (lnC u j))), (2, .int (nI 0)), (3, .int (nI 0)), (4, .int (nI 1)), (5, .int (nI j))]) hx hb dL_isInOrder_76 hl (by decide) rfl (fun ls hl => ?_)
              refine lv_iload_n hx hb dL_isInOrder_78 rfl (lv_at hl 2 rfl) ?_
              refine lv_iload hx hb dL_isInOrder_79 (lv_at hl 0 rfl) ?_
              refine lv_if_lt (x := nI q) (tgt := 88) hx hb dL_isInOrder_81 (by decide) (fun c3 => ?_) (fun c3 => ?_)
              · exact absurd c3 (nI_pos (by omega))
              · refine lv_iconst (v := nI 1) hx hb dL_isInOrder_84 (by decide) ?_
                refine lv_goto (tgt := 89) hx hb dL_isInOrder_85 (by decide) ?_
                refine mq_iadd (x := (lnC u j)) (y := 1) hx hb dL_isInOrder_89 ?_
                rw [show nI (lnC u j + 1) = nI (lnC u (j + 1)) from (by rw [lnC_some hln])]
                refine lv_istore_n (lv' := [(1, .int (nI (lnC u (j + 1)))), (6, .int (nI q)), (0, .ref (ad 0)), (2, .int (nI 0)), (3, .int (nI 0)), (4, .int (nI 1)), (5, .int (nI j))]) hx hb dL_isInOrder_90 rfl hl (by decide) rfl (fun ls hl => ?_)
                refine lv_iload hx hb dL_isInOrder_91 (lv_at hl 5 rfl) ?_
                refine mq_z (x := 1) (tgt := 127) (by omega) hx hb dL_isInOrder_93 (by decide) (fun c4 => ?_) (fun c4 => ?_)
                · exact absurd c4 (by decide)
                · refine lv_iload hx hb dL_isInOrder_96 (lv_at hl 1 rfl) ?_
                  refine lv_if_lt (x := nI q) (tgt := 123) hx hb dL_isInOrder_98 (by decide) (fun c5 => ?_) (fun c5 => ?_)
                  · exact absurd c5 (nI_pos (by omega))
                  · refine lv_iload hx hb dL_isInOrder_101 (lv_at hl 1 rfl) ?_
                    refine lv_aload_n hx hb dL_isInOrder_103 rfl (lv_at hl 2 rfl) ?_
                    refine CtI.callV (n := 0) (q0 := 0) (ci := 2) (As := []) (rest := [.int (nI q)]) (ws' := wOo cyI cyZ ad wr hm u tr la) (o_sets l D cyI cyZ cyJ ad wr hm u tr la ) ⟨hx, hb, hown, hts⟩ gL_isInOrder_X2_sets rfl ⟨rfl, by decide, by decide, by decide +kernel⟩ ⟨Nat.le_of_ble_eq_true rfl, Nat.le_of_ble_eq_true rfl⟩ ⟨rfl, rfl⟩ hml hl.1 hK hP hD hS hA (ctJ_a (n := 14) (wOo_len _ _ _ _ _ _ _ _) (wOo_len _ _ _ _ _ _ _ _) rfl) (wOo_h _ _ _ _ _ _ _ _) ⟨rfl, rfl⟩ rfl rfl (Nat.le_of_ble_eq_true rfl) ⟨Nat.zero_le _, Nat.zero_le _⟩ dL_isInOrder_104 (fun H locs hP hD hS => ?_)
                    refine mq_irem (x := q) (y := u.1) (by omega) (by omega) (by omega) hx hb dL_isInOrder_107 ?_
                    refine lv_iload hx hb dL_isInOrder_108 (lv_at hl 6 rfl) ?_
                    refine mq_ne (x := (q % u.1)) (y := j) (tgt := 127) (by omega) (by omega) hx hb dL_isInOrder_110 (by decide) (fun c6 => ?_) (fun c6 => ?_)
                    · exact absurd hq1 c6
                    · refine lv_aload_n hx hb dL_isInOrder_113 rfl (lv_at hl 2 rfl) ?_
                      refine lv_iload hx hb dL_isInOrder_114 (lv_at hl 1 rfl) ?_
                      refine CtI.callV (n := 1) (q0 := 0) (ci := 2) (As := [.int (nI q)]) (rest := []) (ws' := wOo cyI cyZ ad wr hm u tr la) (o_placeOf l D cyI cyZ cyJ ad wr hm u tr la q hbd (by omega)) ⟨hx, hb, hown, hts⟩ gL_isInOrder_X2_placeOf rfl ⟨rfl, by decide, by decide, by decide +kernel⟩ ⟨Nat.le_of_ble_eq_true rfl, Nat.le_of_ble_eq_true rfl⟩ ⟨rfl, rfl⟩ hml hl.1 hK hP hD hS hA (ctJ_a (n := 14) (wOo_len _ _ _ _ _ _ _ _) (wOo_len _ _ _ _ _ _ _ _) rfl) (wOo_h _ _ _ _ _ _ _ _) ⟨rfl, rfl⟩ rfl rfl (Nat.le_of_ble_eq_true rfl) ⟨Nat.zero_le _, Nat.zero_le _⟩ dL_isInOrder_116 (fun H locs hP hD hS => ?_)
                      refine lv_iconst (v := nI 1) hx hb dL_isInOrder_119 (by decide) ?_
                      refine mq_ne (x := (cb_where q u)) (y := 1) (tgt := 127) (by omega) (by omega) hx hb dL_isInOrder_120 (by decide) (fun c7 => ?_) (fun c7 => ?_)
                      · exact absurd hq3 c7
                      · refine lv_iconst (v := nI 1) hx hb dL_isInOrder_123 (by decide) ?_
                        refine lv_goto (tgt := 128) hx hb dL_isInOrder_124 (by decide) ?_
                        refine lv_istore (lv' := [(4, .int (nI 1)), (1, .int (nI (lnC u (j + 1)))), (6, .int (nI q)), (0, .ref (ad 0)), (2, .int (nI 0)), (3, .int (nI 0)), (5, .int (nI j))]) hx hb dL_isInOrder_128 hl (by decide) rfl (fun ls hl => ?_)
                        refine lv_iinc (v := nI (j + 1)) (lv' := [(5, .int (nI (j + 1))), (4, .int (nI 1)), (1, .int (nI (lnC u (j + 1)))), (6, .int (nI q)), (0, .ref (ad 0)), (2, .int (nI 0)), (3, .int (nI 0))]) hx hb dL_isInOrder_130 hl (k := 6) rfl (inc1 _) (by decide) rfl (fun ls hl => ?_)
                        refine lv_goto (tgt := 61) hx hb dL_isInOrder_133 (by decide) ?_
                        exact iha (j + 1) _ _ _ (by omega) (by omega) hP hD hS (lv_sub hl [4, 2, 5, 6, 1, 0] rfl)
      exact LPa _ 0 _ _ _ (Nat.zero_le _) (Nat.lt_succ_self _) hP hD hS (lv_sub hl [5, 4, 3, 2, 1, 0] rfl)
end
section
/-! the law: what stands around each of its roads; small laws of its numbers -/
def LC (p : Program) (s : State) (m : MethodId) (args : Array Value) (meth : Method) (c : Code) (D : va_G) (A : Nat → Prop) (cyI cyZ cyJ : ClassId) (b L : Nat) (xs : Nat → Int32) : Prop := p.tables.exec = Jvm.exec ∧ c.code = cL_law ∧ s.vm.findClass RL = some m.cls ∧ (∀ w ∈ wsL_law, w.before args s = true) ∧ c.maxLocals = 13 ∧ va_K D vwCl (T3 cyI cyZ cyJ) s ∧ (∀ q : Nat, s.heap.size ≤ q → A q) ∧ va_X b L xs s s.heap ∧ b < s.heap.size ∧ ¬ A b ∧ L ≤ 260
/-- the worlds of the law: the bench, its words that the law remembers -/
abbrev wLw (cyI cyZ : ClassId) (ad : Nat → Nat) (qa : Nat) (wr hm w : Nat → Int32) (u tr : CBu) (la : LAu) : va_W := wOo cyI cyZ ad wr hm u tr la ++ wW cyI qa w
theorem wLw_len (cyI cyZ : ClassId) (ad : Nat → Nat) (qa : Nat) (wr hm w : Nat → Int32) (u tr : CBu) (la : LAu) : (wLw cyI cyZ ad qa wr hm w u tr la).length = 15 := by
  show (wOo cyI cyZ ad wr hm u tr la ++ wW cyI qa w).length = 15
  rw [List.length_append, wOo_len]
  rfl
abbrev lvH (b h qa k : Nat) : List (Nat × Value) := [(0, .ref b), (1, .ref h), (2, .ref qa), (3, .int (nI 1)), (4, .int (nI k))]
abbrev lvT (b h qa k x sl : Nat) (u : CBu) : List (Nat × Value) := [(0, .ref b), (1, .ref h), (2, .ref qa), (3, .int (nI 1)), (4, .int (nI k)), (5, .int (nI x)), (6, .int (nI sl)), (7, .int (nI (x % 16))), (8, .int (cb_hi u)), (9, .int (cb_co u)), (10, .int (nI (cb_where (ads sl / 4) u)))]
abbrev lvE (b h qa k x sl : Nat) : List (Nat × Value) := [(0, .ref b), (1, .ref h), (2, .ref qa), (3, .int (nI 1)), (4, .int (nI k)), (6, .int (nI sl)), (7, .int (nI (x % 16)))]
/-- the loop's head may be reached with k turns done -/
def KT (p : Program) (l : Launch) (e : Env) (s : State) (m : MethodId) (args : Array Value) (below : List Frame) (meth : Method) (c : Code) (Q : State → Prop) (D : va_G) (A : Nat → Prop) (cyI cyZ : ClassId) (b : Nat) (ad : Nat → Nat) (qa cells slots k : Nat) : Prop :=
  ∀ (H : Heap) (locs : List Loc) (ls : Array Slot) (wr hm w : Nat → Int32) (u : CBu) (la : LAu), LInv k wr w u la → va_P D vwCl (wLw cyI cyZ ad qa wr hm w u cb_new la) H → va_D A (wLw cyI cyZ ad qa wr hm w u cb_new la) → va_S A s.heap H locs → lv_has ls 13 (lvH b (ad 0) qa k) → W p l e room_1 s m args below meth c H locs cells slots Q (F0 m 18 ls [])
theorem shl5 {y : Nat} (h : y < 5) : nI 1 <<< (nI y &&& 31) = nI (2 ^ y) ∧ (2 ^ y = 1 ∨ 2 ^ y = 2 ∨ 2 ^ y = 4 ∨ 2 ^ y = 8 ∨ 2 ^ y = 16) := by
  rcases (show y = 0 ∨ y = 1 ∨ y = 2 ∨ y = 3 ∨ y = 4 by omega) with rfl | rfl | rfl | rfl | rfl <;> decide
theorem sub64 (n : Nat) : nI n - nI 64 = Int32.ofInt ((n : Int) - 64) := by
  rw [nI_ofInt, nI_ofInt, Int32.ofInt_sub]
  rfl
theorem lines_le {u : CBu} (h : Ok 256 u) : cb_lines u ≤ 24 := by
  obtain ⟨sc, pl, ln, bn, n, dt, hi, sw, mi, hc, co⟩ := u
  obtain ⟨a1, a2, a3, -⟩ := h
  have := cnt_le (fun s => (ln s).isSome) sc
  show n + cnt (fun s => (ln s).isSome) sc ≤ 24
  omega
theorem co_empty (s' p' : Nat) (u : CBu) : cb_co (cb_empty s' p' u) = cb_co u := by
  obtain ⟨sc, pl, ln, bn, n, dt, hi, sw, mi, hc, co⟩ := u
  rfl
theorem n_empty (s' p' : Nat) (u : CBu) : (cb_empty s' p' u).2.2.2.2.1 = 0 := by
  obtain ⟨sc, pl, ln, bn, n, dt, hi, sw, mi, hc, co⟩ := u
  rfl
theorem walk_cost {k a n : Nat} {z : Int} {wr w : Nat → Int32} {u : CBu} {la : LAu} (h : LInv k wr w u la) (hk : k ≤ 150) (hn : n ≤ 30) : ¬ cb_co (ob_walk a z n u la).1 < cb_co u + nI n := by
  obtain ⟨⟨-, -, -, c, -, h1, h2, -⟩, -⟩ := h
  obtain ⟨d, d1, d2, g, -⟩ := gr_walk a z u la n
  rw [g, h1, nI_add, nI_add]
  intro h3
  have := (nI_ltI (show c + d < 2 ^ 31 by omega) (show c + n < 2 ^ 31 by omega)).mp h3
  omega
theorem linv_ok {k : Nat} {wr w : Nat → Int32} {u : CBu} {la : LAu} (h : LInv k wr w u la) : Ok 256 u ∧ la_bd la ∧ CF u ∧ cb_bd u := ⟨h.1.1, h.1.2.1, h.1.2.2.1, ok_of h.1.1⟩
end
section
/-! the law's roads: reading, writing, walking, care; a turn's end -/
section
variable {p : Program} {l : Launch} {e : Env} {s : State} {m : MethodId} {args : Array Value} {below : List Frame} {meth : Method} {c : Code} {H : Heap} {locs : List Loc} {cells slots : Nat} {Q : State → Prop}
variable {ls : Array Slot} {D : va_G} {A : Nat → Prop} {cyI cyZ cyJ : ClassId} {b L : Nat} {xs : Nat → Int32} {ad : Nat → Nat} {qa k x sl : Nat}
variable {wr hm w : Nat → Int32} {u tr : CBu} {la : LAu}
set_option maxRecDepth 100000 in
set_option maxHeartbeats 4000000 in
theorem t_tail (hC : LC p s m args meth c D A cyI cyZ cyJ b L xs) (kt : KT p l e s m args below meth c Q D A cyI cyZ b ad qa cells slots (k + 1)) (hk : k < 150) (hcel : cells ≤ 152 ∧ slots ≤ 4085) (hsl : sl < 64) (hinv : LInv (k + 1) wr w u la) (hq : x % 16 ≤ 11 → cb_where (ads sl / 4) u = 1) (hP : va_P D vwCl (wLw cyI cyZ ad qa wr hm w u cb_new la) H) (hD : va_D A (wLw cyI cyZ ad qa wr hm w u cb_new la)) (hS : va_S A s.heap H locs) (hl : lv_has ls 13 (lvE b (ad 0) qa k x sl)) : W p l e room_1 s m args below meth c H locs cells slots Q (F0 m 519 ls []) := by
  have hC0 := hC
  obtain ⟨hx, hb, hown, hts, hml, hK, hA, hX, hbl, hbA, hL⟩ := hC
  obtain ⟨hok, hla, hcf, hbd⟩ := linv_ok hinv
  have ha := ads_lt hsl
  refine lv_iload_n hx hb dL_law_519 rfl (lv_at hl 3 rfl) ?_
  refine mq_z (x := 1) (tgt := 564) (by omega) hx hb dL_law_520 (by decide) (fun c1 => ?_) (fun c1 => ?_)
  · exact absurd c1 (by decide)
  · refine lv_iload hx hb dL_law_523 (lv_at hl 6 rfl) ?_
    refine lv_bipush (v := nI 11) hx hb dL_law_525 (by decide) ?_
    refine mq_gt (x := (x % 16)) (y := 11) (tgt := 545) (by omega) (by omega) hx hb dL_law_527 (by decide) (fun c2 => ?_) (fun c2 => ?_)
    · refine lv_iload hx hb dL_law_545 (lv_at hl 4 rfl) ?_
      refine lv_bipush (v := nI 10) hx hb dL_law_547 (by decide) ?_
      refine mq_irem (x := k) (y := 10) (by omega) (by omega) (by omega) hx hb dL_law_549 ?_
      refine lv_if_gt (x := nI (k % 10)) (tgt := 560) hx hb dL_law_550 (by decide) (fun c4 => ?_) (fun c4 => ?_)
      · refine lv_iconst (v := nI 1) hx hb dL_law_560 (by decide) ?_
        refine lv_goto (tgt := 565) hx hb dL_law_561 (by decide) ?_
        refine lv_istore_n (lv' := [(3, .int (nI 1)), (0, .ref b), (1, .ref (ad 0)), (2, .ref qa), (4, .int (nI k)), (6, .int (nI sl)), (7, .int (nI (x % 16)))]) hx hb dL_law_565 rfl hl (by decide) rfl (fun ls hl => ?_)
        refine lv_iinc (v := nI (k + 1)) (lv' := [(4, .int (nI (k + 1))), (3, .int (nI 1)), (0, .ref b), (1, .ref (ad 0)), (2, .ref qa), (6, .int (nI sl)), (7, .int (nI (x % 16)))]) hx hb dL_law_566 hl (k := 4) rfl (inc1 _) (by decide) rfl (fun ls hl => ?_)
        refine lv_goto (tgt := 18) hx hb dL_law_569 (by decide) ?_
        exact kt _ _ _ _ _ _ _ _ hinv hP hD hS (lv_sub hl [2, 3, 4, 1, 0] rfl)
      · refine lv_aload_n hx hb dL_law_553 rfl (lv_at hl 1 rfl) ?_
        refine CtI.callS (n := 1) (As := [.ref (ad 0)]) (rest := []) (ws' := wLw cyI cyZ ad qa wr hm w u cb_new la) (o_isInOrder l D cyI cyZ cyJ ad wr hm u cb_new la hok hcf) ⟨hx, hb, hown, hts⟩ gL_law_L_isInOrder rfl ⟨by decide, by decide, by decide +kernel⟩ ⟨Nat.le_of_ble_eq_true rfl, Nat.le_of_ble_eq_true rfl⟩ ⟨rfl, rfl⟩ hml hl.1 hK hP hD hS hA (ctJ_l (n := 14) (r := 1) (wOo_len _ _ _ _ _ _ _ _) rfl (wOo_len _ _ _ _ _ _ _ _) rfl rfl rfl rfl) rfl rfl (Nat.le_of_ble_eq_true rfl) hcel dL_law_554 (fun H locs hP hD hS => ?_)
        refine mq_z (x := 1) (tgt := 564) (by omega) hx hb dL_law_557 (by decide) (fun c5 => ?_) (fun c5 => ?_)
        · exact absurd c5 (by decide)
        · refine lv_iconst (v := nI 1) hx hb dL_law_560 (by decide) ?_
          refine lv_goto (tgt := 565) hx hb dL_law_561 (by decide) ?_
          refine lv_istore_n (lv' := [(3, .int (nI 1)), (0, .ref b), (1, .ref (ad 0)), (2, .ref qa), (4, .int (nI k)), (6, .int (nI sl)), (7, .int (nI (x % 16)))]) hx hb dL_law_565 rfl hl (by decide) rfl (fun ls hl => ?_)
          refine lv_iinc (v := nI (k + 1)) (lv' := [(4, .int (nI (k + 1))), (3, .int (nI 1)), (0, .ref b), (1, .ref (ad 0)), (2, .ref qa), (6, .int (nI sl)), (7, .int (nI (x % 16)))]) hx hb dL_law_566 hl (k := 4) rfl (inc1 _) (by decide) rfl (fun ls hl => ?_)
          refine lv_goto (tgt := 18) hx hb dL_law_569 (by decide) ?_
          exact kt _ _ _ _ _ _ _ _ hinv hP hD hS (lv_sub hl [2, 3, 4, 1, 0] rfl)
    · refine lv_aload_n hx hb dL_law_530 rfl (lv_at hl 1 rfl) ?_
      refine lv_iload hx hb dL_law_531 (lv_at hl 5 rfl) ?_
      refine CtI.callS (n := 1) (As := [.int (nI sl)]) (rest := [.ref (ad 0)]) (ws' := wLw cyI cyZ ad qa wr hm w u cb_new la) (c_address l D cyI cyZ cyJ sl hsl) ⟨hx, hb, hown, hts⟩ gL_law_L_address rfl ⟨by decide, by decide, by decide +kernel⟩ ⟨Nat.le_of_ble_eq_true rfl, Nat.le_of_ble_eq_true rfl⟩ ⟨rfl, rfl⟩ hml hl.1 hK hP hD hS hA (ctJ_0 (n := 15) (wLw_len _ _ _ _ _ _ _ _ _ _) rfl rfl) rfl rfl (Nat.le_of_ble_eq_true rfl) hcel dL_law_533 (fun H locs hP hD hS => ?_)
      refine lv_iconst (v := nI 4) hx hb dL_law_536 (by decide) ?_
      refine mq_idiv (x := (ads sl)) (y := 4) (by omega) (by omega) (by omega) hx hb dL_law_537 ?_
      refine CtI.callV (n := 1) (q0 := 0) (ci := 2) (As := [.int (nI ((ads sl) / 4))]) (rest := []) (ws' := wLw cyI cyZ ad qa wr hm w u cb_new la) (o_placeOf l D cyI cyZ cyJ ad wr hm u cb_new la ((ads sl) / 4) hbd (by omega)) ⟨hx, hb, hown, hts⟩ gL_law_X2_placeOf rfl ⟨rfl, by decide, by decide, by decide +kernel⟩ ⟨Nat.le_of_ble_eq_true rfl, Nat.le_of_ble_eq_true rfl⟩ ⟨rfl, rfl⟩ hml hl.1 hK hP hD hS hA (ctJ_l (n := 14) (r := 1) (wOo_len _ _ _ _ _ _ _ _) rfl (wOo_len _ _ _ _ _ _ _ _) rfl rfl rfl rfl) (wOo_h _ _ _ _ _ _ _ _) ⟨rfl, rfl⟩ rfl rfl (Nat.le_of_ble_eq_true rfl) hcel dL_law_538 (fun H locs hP hD hS => ?_)
      refine lv_iconst (v := nI 1) hx hb dL_law_541 (by decide) ?_
      refine mq_ne (x := (cb_where ((ads sl) / 4) u)) (y := 1) (tgt := 564) (by have := where_lt (ads sl / 4) u; omega) (by omega) hx hb dL_law_542 (by decide) (fun c3 => ?_) (fun c3 => ?_)
      · exact absurd (hq (by omega)) c3
      · refine lv_iload hx hb dL_law_545 (lv_at hl 4 rfl) ?_
        refine lv_bipush (v := nI 10) hx hb dL_law_547 (by decide) ?_
        refine mq_irem (x := k) (y := 10) (by omega) (by omega) (by omega) hx hb dL_law_549 ?_
        refine lv_if_gt (x := nI (k % 10)) (tgt := 560) hx hb dL_law_550 (by decide) (fun c4 => ?_) (fun c4 => ?_)
        · refine lv_iconst (v := nI 1) hx hb dL_law_560 (by decide) ?_
          refine lv_goto (tgt := 565) hx hb dL_law_561 (by decide) ?_
          refine lv_istore_n (lv' := [(3, .int (nI 1)), (0, .ref b), (1, .ref (ad 0)), (2, .ref qa), (4, .int (nI k)), (6, .int (nI sl)), (7, .int (nI (x % 16)))]) hx hb dL_law_565 rfl hl (by decide) rfl (fun ls hl => ?_)
          refine lv_iinc (v := nI (k + 1)) (lv' := [(4, .int (nI (k + 1))), (3, .int (nI 1)), (0, .ref b), (1, .ref (ad 0)), (2, .ref qa), (6, .int (nI sl)), (7, .int (nI (x % 16)))]) hx hb dL_law_566 hl (k := 4) rfl (inc1 _) (by decide) rfl (fun ls hl => ?_)
          refine lv_goto (tgt := 18) hx hb dL_law_569 (by decide) ?_
          exact kt _ _ _ _ _ _ _ _ hinv hP hD hS (lv_sub hl [2, 3, 4, 1, 0] rfl)
        · refine lv_aload_n hx hb dL_law_553 rfl (lv_at hl 1 rfl) ?_
          refine CtI.callS (n := 1) (As := [.ref (ad 0)]) (rest := []) (ws' := wLw cyI cyZ ad qa wr hm w u cb_new la) (o_isInOrder l D cyI cyZ cyJ ad wr hm u cb_new la hok hcf) ⟨hx, hb, hown, hts⟩ gL_law_L_isInOrder rfl ⟨by decide, by decide, by decide +kernel⟩ ⟨Nat.le_of_ble_eq_true rfl, Nat.le_of_ble_eq_true rfl⟩ ⟨rfl, rfl⟩ hml hl.1 hK hP hD hS hA (ctJ_l (n := 14) (r := 1) (wOo_len _ _ _ _ _ _ _ _) rfl (wOo_len _ _ _ _ _ _ _ _) rfl rfl rfl rfl) rfl rfl (Nat.le_of_ble_eq_true rfl) hcel dL_law_554 (fun H locs hP hD hS => ?_)
          refine mq_z (x := 1) (tgt := 564) (by omega) hx hb dL_law_557 (by decide) (fun c5 => ?_) (fun c5 => ?_)
          · exact absurd c5 (by decide)
          · refine lv_iconst (v := nI 1) hx hb dL_law_560 (by decide) ?_
            refine lv_goto (tgt := 565) hx hb dL_law_561 (by decide) ?_
            refine lv_istore_n (lv' := [(3, .int (nI 1)), (0, .ref b), (1, .ref (ad 0)), (2, .ref qa), (4, .int (nI k)), (6, .int (nI sl)), (7, .int (nI (x % 16)))]) hx hb dL_law_565 rfl hl (by decide) rfl (fun ls hl => ?_)
            refine lv_iinc (v := nI (k + 1)) (lv' := [(4, .int (nI (k + 1))), (3, .int (nI 1)), (0, .ref b), (1, .ref (ad 0)), (2, .ref qa), (6, .int (nI sl)), (7, .int (nI (x % 16)))]) hx hb dL_law_566 hl (k := 4) rfl (inc1 _) (by decide) rfl (fun ls hl => ?_)
            refine lv_goto (tgt := 18) hx hb dL_law_569 (by decide) ?_
            exact kt _ _ _ _ _ _ _ _ hinv hP hD hS (lv_sub hl [2, 3, 4, 1, 0] rfl)
set_option maxRecDepth 100000 in
set_option maxHeartbeats 4000000 in
theorem t_read (hC : LC p s m args meth c D A cyI cyZ cyJ b L xs) (kt : KT p l e s m args below meth c Q D A cyI cyZ b ad qa cells slots (k + 1)) (hk : k < 150) (hcel : cells ≤ 152 ∧ slots ≤ 4085) (hx3 : x < 30000) (hsl : sl < 64) (hinv : LInv k wr w u la) (hP : va_P D vwCl (wLw cyI cyZ ad qa wr hm w u cb_new la) H) (hD : va_D A (wLw cyI cyZ ad qa wr hm w u cb_new la)) (hS : va_S A s.heap H locs) (hl : lv_has ls 13 (lvT b (ad 0) qa k x sl u)) : W p l e room_1 s m args below meth c H locs cells slots Q (F0 m 102 ls []) := by
  have hC0 := hC
  obtain ⟨hx, hb, hown, hts, hml, hK, hA, hX, hbl, hbA, hL⟩ := hC
  obtain ⟨hok, hla, hcf, hbd⟩ := linv_ok hinv
  have ha := ads_lt hsl
  have hw := hinv.2
  have hw3 := where_lt (ads sl / 4) u
  refine lv_aload_n hx hb dL_law_102 rfl (lv_at hl 1 rfl) ?_
  refine lv_iload hx hb dL_law_103 (lv_at hl 6 rfl) ?_
  refine CtI.callS (n := 1) (As := [.int (nI sl)]) (rest := [.ref (ad 0)]) (ws' := wLw cyI cyZ ad qa wr hm w u cb_new la) (c_address l D cyI cyZ cyJ sl hsl) ⟨hx, hb, hown, hts⟩ gL_law_L_address rfl ⟨by decide, by decide, by decide +kernel⟩ ⟨Nat.le_of_ble_eq_true rfl, Nat.le_of_ble_eq_true rfl⟩ ⟨rfl, rfl⟩ hml hl.1 hK hP hD hS hA (ctJ_0 (n := 15) (wLw_len _ _ _ _ _ _ _ _ _ _) rfl rfl) rfl rfl (Nat.le_of_ble_eq_true rfl) hcel dL_law_105 (fun H locs hP hD hS => ?_)
  refine CtI.callV (n := 1) (q0 := 0) (ci := 2) (As := [.int (nI (ads sl))]) (rest := []) (ws' := wLw cyI cyZ ad qa wr hm w (cb_acc (ads sl / 4) false u) cb_new (la_add (ads sl / 4) false la)) (o_read l D cyI cyZ cyJ ad wr hm u cb_new la (ads sl) hbd hla ha) ⟨hx, hb, hown, hts⟩ gL_law_X2_read rfl ⟨rfl, by decide, by decide, by decide +kernel⟩ ⟨Nat.le_of_ble_eq_true rfl, Nat.le_of_ble_eq_true rfl⟩ ⟨rfl, rfl⟩ hml hl.1 hK hP hD hS hA (ctJ_l (n := 14) (r := 1) (wOo_len _ _ _ _ _ _ _ _) rfl (wOo_len _ _ _ _ _ _ _ _) rfl rfl rfl rfl) (wOo_h _ _ _ _ _ _ _ _) ⟨rfl, rfl⟩ rfl rfl (Nat.le_of_ble_eq_true rfl) hcel dL_law_108 (fun H locs hP hD hS => ?_)
  refine lv_aload_n hx hb dL_law_111 rfl (lv_at hl 2 rfl) ?_
  refine lv_iload hx hb dL_law_112 (lv_at hl 6 rfl) ?_
  refine mq_ldR (k := sl) w hx hb hK hP 14 0 (wL_q _ _ _ _ _ _ _ _ _ _) rfl (by omega) (Nat.le_of_ble_eq_true rfl) dL_law_114 ?_
  refine lv_icmp_ne (x := wr (ads sl)) (y := w sl) (tgt := 143) hx hb dL_law_115 (by decide) (fun c1 => ?_) (fun c1 => ?_)
  · exact absurd (hw sl hsl).symm c1
  · refine lv_aload_n hx hb dL_law_118 rfl (lv_at hl 1 rfl) ?_
    refine CtI.callV (n := 0) (q0 := 0) (ci := 2) (As := []) (rest := []) (ws' := wLw cyI cyZ ad qa wr hm w (cb_acc (ads sl / 4) false u) cb_new (la_add (ads sl / 4) false la)) (o_hits l D cyI cyZ cyJ ad wr hm (cb_acc (ads sl / 4) false u) cb_new (la_add (ads sl / 4) false la) ) ⟨hx, hb, hown, hts⟩ gL_law_X2_hits rfl ⟨rfl, by decide, by decide, by decide +kernel⟩ ⟨Nat.le_of_ble_eq_true rfl, Nat.le_of_ble_eq_true rfl⟩ ⟨rfl, rfl⟩ hml hl.1 hK hP hD hS hA (ctJ_l (n := 14) (r := 1) (wOo_len _ _ _ _ _ _ _ _) rfl (wOo_len _ _ _ _ _ _ _ _) rfl rfl rfl rfl) (wOo_h _ _ _ _ _ _ _ _) ⟨rfl, rfl⟩ rfl rfl (Nat.le_of_ble_eq_true rfl) hcel dL_law_119 (fun H locs hP hD hS => ?_)
    refine lv_iload hx hb dL_law_122 (lv_at hl 8 rfl) ?_
    refine lv_iload hx hb dL_law_124 (lv_at hl 10 rfl) ?_
    refine lv_iconst (v := nI 1) hx hb dL_law_126 (by decide) ?_
    refine mq_ne (x := (cb_where (ads sl / 4) u)) (y := 1) (tgt := 134) (by omega) (by omega) hx hb dL_law_127 (by decide) (fun c2 => ?_) (fun c2 => ?_)
    · refine lv_iconst (v := nI 0) hx hb dL_law_134 (by decide) ?_
      refine lv_iadd (x := cb_hi u) (y := nI 0) hx hb dL_law_135 ?_
      refine lv_icmp_ne (x := cb_hi (cb_acc (ads sl / 4) false u)) (y := cb_hi u + nI 0) (tgt := 143) hx hb dL_law_136 (by decide) (fun c3 => ?_) (fun c3 => ?_)
      · exact absurd (hi_not false c2) c3
      · refine lv_iconst (v := nI 1) hx hb dL_law_139 (by decide) ?_
        refine lv_goto (tgt := 144) hx hb dL_law_140 (by decide) ?_
        refine lv_istore_n (lv' := [(3, .int (nI 1)), (0, .ref b), (1, .ref (ad 0)), (2, .ref qa), (4, .int (nI k)), (5, .int (nI x)), (6, .int (nI sl)), (7, .int (nI (x % 16))), (8, .int (cb_hi u)), (9, .int (cb_co u)), (10, .int (nI (cb_where (ads sl / 4) u)))]) hx hb dL_law_144 rfl hl (by decide) rfl (fun ls hl => ?_)
        refine lv_goto (tgt := 519) hx hb dL_law_145 (by decide) ?_
        exact t_tail (x := x) (sl := sl) hC0 kt hk hcel hsl (linv_read hinv (by omega)) (fun _ => acc_in _ _ _) hP hD hS (lv_sub hl [1, 2, 3, 0, 4, 6, 7] rfl)
    · refine lv_iconst (v := nI 1) hx hb dL_law_130 (by decide) ?_
      refine lv_goto (tgt := 135) hx hb dL_law_131 (by decide) ?_
      refine lv_iadd (x := cb_hi u) (y := nI 1) hx hb dL_law_135 ?_
      refine lv_icmp_ne (x := cb_hi (cb_acc (ads sl / 4) false u)) (y := cb_hi u + nI 1) (tgt := 143) hx hb dL_law_136 (by decide) (fun c3 => ?_) (fun c3 => ?_)
      · exact absurd (hi_hit false c2) c3
      · refine lv_iconst (v := nI 1) hx hb dL_law_139 (by decide) ?_
        refine lv_goto (tgt := 144) hx hb dL_law_140 (by decide) ?_
        refine lv_istore_n (lv' := [(3, .int (nI 1)), (0, .ref b), (1, .ref (ad 0)), (2, .ref qa), (4, .int (nI k)), (5, .int (nI x)), (6, .int (nI sl)), (7, .int (nI (x % 16))), (8, .int (cb_hi u)), (9, .int (cb_co u)), (10, .int (nI (cb_where (ads sl / 4) u)))]) hx hb dL_law_144 rfl hl (by decide) rfl (fun ls hl => ?_)
        refine lv_goto (tgt := 519) hx hb dL_law_145 (by decide) ?_
        exact t_tail (x := x) (sl := sl) hC0 kt hk hcel hsl (linv_read hinv (by omega)) (fun _ => acc_in _ _ _) hP hD hS (lv_sub hl [1, 2, 3, 0, 4, 6, 7] rfl)
set_option maxRecDepth 100000 in
set_option maxHeartbeats 4000000 in
theorem t_write (hC : LC p s m args meth c D A cyI cyZ cyJ b L xs) (kt : KT p l e s m args below meth c Q D A cyI cyZ b ad qa cells slots (k + 1)) (hk : k < 150) (hcel : cells ≤ 152 ∧ slots ≤ 4085) (hx3 : x < 30000) (hsl : sl < 64) (hinv : LInv k wr w u la) (hP : va_P D vwCl (wLw cyI cyZ ad qa wr hm w u cb_new la) H) (hD : va_D A (wLw cyI cyZ ad qa wr hm w u cb_new la)) (hS : va_S A s.heap H locs) (hl : lv_has ls 13 (lvT b (ad 0) qa k x sl u)) : W p l e room_1 s m args below meth c H locs cells slots Q (F0 m 155 ls []) := by
  have hC0 := hC
  obtain ⟨hx, hb, hown, hts, hml, hK, hA, hX, hbl, hbA, hL⟩ := hC
  obtain ⟨hok, hla, hcf, hbd⟩ := linv_ok hinv
  have ha := ads_lt hsl
  have hw := hinv.2
  have hw3 := where_lt (ads sl / 4) u
  refine lv_aload_n hx hb dL_law_155 rfl (lv_at hl 1 rfl) ?_
  refine lv_iload hx hb dL_law_156 (lv_at hl 6 rfl) ?_
  refine CtI.callS (n := 1) (As := [.int (nI sl)]) (rest := [.ref (ad 0)]) (ws' := wLw cyI cyZ ad qa wr hm w u cb_new la) (c_address l D cyI cyZ cyJ sl hsl) ⟨hx, hb, hown, hts⟩ gL_law_L_address rfl ⟨by decide, by decide, by decide +kernel⟩ ⟨Nat.le_of_ble_eq_true rfl, Nat.le_of_ble_eq_true rfl⟩ ⟨rfl, rfl⟩ hml hl.1 hK hP hD hS hA (ctJ_0 (n := 15) (wLw_len _ _ _ _ _ _ _ _ _ _) rfl rfl) rfl rfl (Nat.le_of_ble_eq_true rfl) hcel dL_law_158 (fun H locs hP hD hS => ?_)
  refine lv_iload hx hb dL_law_161 (lv_at hl 5 rfl) ?_
  refine lv_iload hx hb dL_law_163 (lv_at hl 4 rfl) ?_
  refine lv_isub (x := nI x) (y := nI k) hx hb dL_law_165 ?_
  refine CtI.callV (n := 2) (q0 := 0) (ci := 2) (As := [.int (nI (ads sl)), .int (nI x - nI k)]) (rest := []) (ws' := wLw cyI cyZ ad qa (ru wr (ads sl) (nI x - nI k)) (if cb_dt u (ads sl / 4) = true then hm else cpy hm wr (ads sl / 4 * 4) (ads sl / 4 * 4 + 4)) w (cb_acc (ads sl / 4) true u) cb_new (la_add (ads sl / 4) true la)) (o_write l D cyI cyZ cyJ ad wr hm u cb_new la (ads sl) (nI x - nI k) hbd hla ha) ⟨hx, hb, hown, hts⟩ gL_law_X2_write rfl ⟨rfl, by decide, by decide, by decide +kernel⟩ ⟨Nat.le_of_ble_eq_true rfl, Nat.le_of_ble_eq_true rfl⟩ ⟨rfl, rfl⟩ hml hl.1 hK hP hD hS hA (ctJ_l (n := 14) (r := 1) (wOo_len _ _ _ _ _ _ _ _) rfl (wOo_len _ _ _ _ _ _ _ _) rfl rfl rfl rfl) (wOo_h _ _ _ _ _ _ _ _) ⟨rfl, rfl⟩ rfl rfl (Nat.le_of_ble_eq_true rfl) hcel dL_law_166 (fun H locs hP hD hS => ?_)
  refine lv_aload_n hx hb dL_law_169 rfl (lv_at hl 2 rfl) ?_
  refine lv_iload hx hb dL_law_170 (lv_at hl 6 rfl) ?_
  refine mq_ldR (k := sl) w hx hb hK hP 14 0 (wL_q _ _ _ _ _ _ _ _ _ _) rfl (by omega) (Nat.le_of_ble_eq_true rfl) dL_law_172 ?_
  refine lv_icmp_ne (x := wr (ads sl)) (y := w sl) (tgt := 211) hx hb dL_law_173 (by decide) (fun c1 => ?_) (fun c1 => ?_)
  · exact absurd (hw sl hsl).symm c1
  · refine lv_aload_n hx hb dL_law_176 rfl (lv_at hl 1 rfl) ?_
    refine lv_iload hx hb dL_law_177 (lv_at hl 6 rfl) ?_
    refine CtI.callS (n := 1) (As := [.int (nI sl)]) (rest := [.ref (ad 0)]) (ws' := wLw cyI cyZ ad qa (ru wr (ads sl) (nI x - nI k)) (if cb_dt u (ads sl / 4) = true then hm else cpy hm wr (ads sl / 4 * 4) (ads sl / 4 * 4 + 4)) w (cb_acc (ads sl / 4) true u) cb_new (la_add (ads sl / 4) true la)) (c_address l D cyI cyZ cyJ sl hsl) ⟨hx, hb, hown, hts⟩ gL_law_L_address rfl ⟨by decide, by decide, by decide +kernel⟩ ⟨Nat.le_of_ble_eq_true rfl, Nat.le_of_ble_eq_true rfl⟩ ⟨rfl, rfl⟩ hml hl.1 hK hP hD hS hA (ctJ_0 (n := 15) (wLw_len _ _ _ _ _ _ _ _ _ _) rfl rfl) rfl rfl (Nat.le_of_ble_eq_true rfl) hcel dL_law_179 (fun H locs hP hD hS => ?_)
    refine lv_iconst (v := nI 4) hx hb dL_law_182 (by decide) ?_
    refine mq_idiv (x := (ads sl)) (y := 4) (by omega) (by omega) (by omega) hx hb dL_law_183 ?_
    refine CtI.callV (n := 1) (q0 := 0) (ci := 2) (As := [.int (nI ((ads sl) / 4))]) (rest := []) (ws' := wLw cyI cyZ ad qa (ru wr (ads sl) (nI x - nI k)) (if cb_dt u (ads sl / 4) = true then hm else cpy hm wr (ads sl / 4 * 4) (ads sl / 4 * 4 + 4)) w (cb_acc (ads sl / 4) true u) cb_new (la_add (ads sl / 4) true la)) (o_isDirty l D cyI cyZ cyJ ad (ru wr (ads sl) (nI x - nI k)) (if cb_dt u (ads sl / 4) = true then hm else cpy hm wr (ads sl / 4 * 4) (ads sl / 4 * 4 + 4)) (cb_acc (ads sl / 4) true u) cb_new (la_add (ads sl / 4) true la) ((ads sl) / 4) (by omega)) ⟨hx, hb, hown, hts⟩ gL_law_X2_isDirty rfl ⟨rfl, by decide, by decide, by decide +kernel⟩ ⟨Nat.le_of_ble_eq_true rfl, Nat.le_of_ble_eq_true rfl⟩ ⟨rfl, rfl⟩ hml hl.1 hK hP hD hS hA (ctJ_l (n := 14) (r := 1) (wOo_len _ _ _ _ _ _ _ _) rfl (wOo_len _ _ _ _ _ _ _ _) rfl rfl rfl rfl) (wOo_h _ _ _ _ _ _ _ _) ⟨rfl, rfl⟩ rfl rfl (Nat.le_of_ble_eq_true rfl) hcel dL_law_184 (fun H locs hP hD hS => ?_)
    refine mq_bz (b := (cb_dt (cb_acc (ads sl / 4) true u) ((ads sl) / 4))) (tgt := 211) hx hb dL_law_187 (by decide) (fun c2 => ?_) (fun c2 => ?_)
    · exact absurd ((acc_dirty (ads sl / 4) u).symm.trans c2) (by decide)
    · refine lv_aload_n hx hb dL_law_190 rfl (lv_at hl 1 rfl) ?_
      refine lv_iload hx hb dL_law_191 (lv_at hl 6 rfl) ?_
      refine CtI.callS (n := 1) (As := [.int (nI sl)]) (rest := [.ref (ad 0)]) (ws' := wLw cyI cyZ ad qa (ru wr (ads sl) (nI x - nI k)) (if cb_dt u (ads sl / 4) = true then hm else cpy hm wr (ads sl / 4 * 4) (ads sl / 4 * 4 + 4)) w (cb_acc (ads sl / 4) true u) cb_new (la_add (ads sl / 4) true la)) (c_address l D cyI cyZ cyJ sl hsl) ⟨hx, hb, hown, hts⟩ gL_law_L_address rfl ⟨by decide, by decide, by decide +kernel⟩ ⟨Nat.le_of_ble_eq_true rfl, Nat.le_of_ble_eq_true rfl⟩ ⟨rfl, rfl⟩ hml hl.1 hK hP hD hS hA (ctJ_0 (n := 15) (wLw_len _ _ _ _ _ _ _ _ _ _) rfl rfl) rfl rfl (Nat.le_of_ble_eq_true rfl) hcel dL_law_193 (fun H locs hP hD hS => ?_)
      refine CtI.callV (n := 1) (q0 := 0) (ci := 2) (As := [.int (nI (ads sl))]) (rest := []) (ws' := wLw cyI cyZ ad qa (ru wr (ads sl) (nI x - nI k)) (if cb_dt u (ads sl / 4) = true then hm else cpy hm wr (ads sl / 4 * 4) (ads sl / 4 * 4 + 4)) w (cb_acc (ads sl / 4) true u) cb_new (la_add (ads sl / 4) true la)) (o_peek l D cyI cyZ cyJ ad (ru wr (ads sl) (nI x - nI k)) (if cb_dt u (ads sl / 4) = true then hm else cpy hm wr (ads sl / 4 * 4) (ads sl / 4 * 4 + 4)) (cb_acc (ads sl / 4) true u) cb_new (la_add (ads sl / 4) true la) (ads sl) (by omega)) ⟨hx, hb, hown, hts⟩ gL_law_X2_peek rfl ⟨rfl, by decide, by decide, by decide +kernel⟩ ⟨Nat.le_of_ble_eq_true rfl, Nat.le_of_ble_eq_true rfl⟩ ⟨rfl, rfl⟩ hml hl.1 hK hP hD hS hA (ctJ_l (n := 14) (r := 1) (wOo_len _ _ _ _ _ _ _ _) rfl (wOo_len _ _ _ _ _ _ _ _) rfl rfl rfl rfl) (wOo_h _ _ _ _ _ _ _ _) ⟨rfl, rfl⟩ rfl rfl (Nat.le_of_ble_eq_true rfl) hcel dL_law_196 (fun H locs hP hD hS => ?_)
      refine lv_iload hx hb dL_law_199 (lv_at hl 5 rfl) ?_
      refine lv_iload hx hb dL_law_201 (lv_at hl 4 rfl) ?_
      refine lv_isub (x := nI x) (y := nI k) hx hb dL_law_203 ?_
      refine lv_icmp_ne (x := (ru wr (ads sl) (nI x - nI k)) (ads sl)) (y := nI x - nI k) (tgt := 211) hx hb dL_law_204 (by decide) (fun c3 => ?_) (fun c3 => ?_)
      · exact absurd (ru_s wr (ads sl) _) c3
      · refine lv_iconst (v := nI 1) hx hb dL_law_207 (by decide) ?_
        refine lv_goto (tgt := 212) hx hb dL_law_208 (by decide) ?_
        refine lv_istore_n (lv' := [(3, .int (nI 1)), (0, .ref b), (1, .ref (ad 0)), (2, .ref qa), (4, .int (nI k)), (5, .int (nI x)), (6, .int (nI sl)), (7, .int (nI (x % 16))), (8, .int (cb_hi u)), (9, .int (cb_co u)), (10, .int (nI (cb_where (ads sl / 4) u)))]) hx hb dL_law_212 rfl hl (by decide) rfl (fun ls hl => ?_)
        refine lv_aload_n hx hb dL_law_213 rfl (lv_at hl 3 rfl) ?_
        refine lv_iload hx hb dL_law_214 (lv_at hl 6 rfl) ?_
        refine lv_iload hx hb dL_law_216 (lv_at hl 5 rfl) ?_
        refine lv_iload hx hb dL_law_218 (lv_at hl 4 rfl) ?_
        refine lv_isub (x := nI x) (y := nI k) hx hb dL_law_220 ?_
        refine mq_stR (k := sl) w (nI x - nI k) (ws' := wLw cyI cyZ ad qa (ru wr (ads sl) (nI x - nI k)) (if cb_dt u (ads sl / 4) = true then hm else cpy hm wr (ads sl / 4 * 4) (ads sl / 4 * 4 + 4)) (ru w sl (nI x - nI k)) (cb_acc (ads sl / 4) true u) cb_new (la_add (ads sl / 4) true la)) hx hb hK hP hD hS 14 0 (wL_q _ _ _ _ _ _ _ _ _ _) rfl (by omega) (Nat.le_of_ble_eq_true rfl) dL_law_221 (wL_set _ _ _ _ _ _ _ _ _ _ _) (fun H locs hP hD hS => ?_)
        refine lv_goto (tgt := 519) hx hb dL_law_222 (by decide) ?_
        exact t_tail (x := x) (sl := sl) hC0 kt hk hcel hsl (linv_write hinv hsl) (fun _ => acc_in _ _ _) hP hD hS (lv_sub hl [1, 2, 3, 0, 4, 6, 7] rfl)
set_option maxRecDepth 100000 in
set_option maxHeartbeats 4000000 in
theorem t_walk (hC : LC p s m args meth c D A cyI cyZ cyJ b L xs) (kt : KT p l e s m args below meth c Q D A cyI cyZ b ad qa cells slots (k + 1)) (hk : k < 150) (hcel : cells ≤ 152 ∧ slots ≤ 4085) (hx3 : x < 30000) (hsl : sl < 64) (hinv : LInv k wr w u la) (hwh : x % 16 = 12) (hP : va_P D vwCl (wLw cyI cyZ ad qa wr hm w u cb_new la) H) (hD : va_D A (wLw cyI cyZ ad qa wr hm w u cb_new la)) (hS : va_S A s.heap H locs) (hl : lv_has ls 13 (lvT b (ad 0) qa k x sl u)) : W p l e room_1 s m args below meth c H locs cells slots Q (F0 m 232 ls []) := by
  have hC0 := hC
  obtain ⟨hx, hb, hown, hts, hml, hK, hA, hX, hbl, hbA, hL⟩ := hC
  obtain ⟨hok, hla, hcf, hbd⟩ := linv_ok hinv
  have ha := ads_lt hsl
  have hw := hinv.2
  have hw3 := where_lt (ads sl / 4) u
  obtain ⟨nn, hnn⟩ : ∃ nn : Nat, 1 + x / 16 % 30 = nn := ⟨_, rfl⟩
  obtain ⟨z, hz⟩ : ∃ z : Int, ((x / 480 % 129 : Nat) : Int) - 64 = z := ⟨_, rfl⟩
  refine lv_iconst (v := nI 1) hx hb dL_law_232 (by decide) ?_
  refine lv_iload hx hb dL_law_233 (lv_at hl 5 rfl) ?_
  refine lv_bipush (v := nI 16) hx hb dL_law_235 (by decide) ?_
  refine mq_idiv (x := x) (y := 16) (by omega) (by omega) (by omega) hx hb dL_law_237 ?_
  refine lv_bipush (v := nI 30) hx hb dL_law_238 (by decide) ?_
  refine mq_irem (x := (x / 16)) (y := 30) (by omega) (by omega) (by omega) hx hb dL_law_240 ?_
  refine mq_iadd (x := 1) (y := ((x / 16) % 30)) hx hb dL_law_241 ?_
  rw [show nI (1 + ((x / 16) % 30)) = nI nn from (by rw [hnn])]
  refine lv_istore (lv' := [(11, .int (nI nn)), (0, .ref b), (1, .ref (ad 0)), (2, .ref qa), (3, .int (nI 1)), (4, .int (nI k)), (5, .int (nI x)), (6, .int (nI sl)), (7, .int (nI (x % 16))), (8, .int (cb_hi u)), (9, .int (cb_co u)), (10, .int (nI (cb_where (ads sl / 4) u)))]) hx hb dL_law_242 hl (by decide) rfl (fun ls hl => ?_)
  refine lv_aload_n hx hb dL_law_244 rfl (lv_at hl 2 rfl) ?_
  refine lv_iload hx hb dL_law_245 (lv_at hl 7 rfl) ?_
  refine CtI.callS (n := 1) (As := [.int (nI sl)]) (rest := [.ref (ad 0)]) (ws' := wLw cyI cyZ ad qa wr hm w u cb_new la) (c_address l D cyI cyZ cyJ sl hsl) ⟨hx, hb, hown, hts⟩ gL_law_L_address rfl ⟨by decide, by decide, by decide +kernel⟩ ⟨Nat.le_of_ble_eq_true rfl, Nat.le_of_ble_eq_true rfl⟩ ⟨rfl, rfl⟩ hml hl.1 hK hP hD hS hA (ctJ_0 (n := 15) (wLw_len _ _ _ _ _ _ _ _ _ _) rfl rfl) rfl rfl (Nat.le_of_ble_eq_true rfl) hcel dL_law_247 (fun H locs hP hD hS => ?_)
  refine lv_iload hx hb dL_law_250 (lv_at hl 6 rfl) ?_
  refine lv_sipush (v := nI 480) hx hb dL_law_252 (by decide) ?_
  refine mq_idiv (x := x) (y := 480) (by omega) (by omega) (by omega) hx hb dL_law_255 ?_
  refine lv_sipush (v := nI 129) hx hb dL_law_256 (by decide) ?_
  refine mq_irem (x := (x / 480)) (y := 129) (by omega) (by omega) (by omega) hx hb dL_law_259 ?_
  refine lv_bipush (v := nI 64) hx hb dL_law_260 (by decide) ?_
  refine lv_isub (x := nI ((x / 480) % 129)) (y := nI 64) hx hb dL_law_262 ?_
  rw [show ((nI ((x / 480) % 129)) - nI 64) = (Int32.ofInt z) from (by rw [sub64, hz])]
  refine lv_iload hx hb dL_law_263 (lv_at hl 0 rfl) ?_
  refine CtI.callV (n := 3) (q0 := 0) (ci := 2) (As := [.int (nI (ads sl)), .int (Int32.ofInt z), .int (nI nn)]) (rest := []) (ws' := wLw cyI cyZ ad qa wr hm w ((ob_walk (ads sl) z nn u la).1) cb_new ((ob_walk (ads sl) z nn u la).2)) (o_walk l D cyI cyZ cyJ ad wr hm u cb_new la (ads sl) z nn hbd hla ha (by omega) (by omega) (by omega) (by omega)) ⟨hx, hb, hown, hts⟩ gL_law_X2_walk rfl ⟨rfl, by decide, by decide, by decide +kernel⟩ ⟨Nat.le_of_ble_eq_true rfl, Nat.le_of_ble_eq_true rfl⟩ ⟨rfl, rfl⟩ hml hl.1 hK hP hD hS hA (ctJ_l (n := 14) (r := 1) (wOo_len _ _ _ _ _ _ _ _) rfl (wOo_len _ _ _ _ _ _ _ _) rfl rfl rfl rfl) (wOo_h _ _ _ _ _ _ _ _) ⟨rfl, rfl⟩ rfl rfl (Nat.le_of_ble_eq_true rfl) hcel dL_law_265 (fun H locs hP hD hS => ?_)
  refine lv_aload_n hx hb dL_law_268 rfl (lv_at hl 2 rfl) ?_
  refine CtI.callV (n := 0) (q0 := 0) (ci := 2) (As := []) (rest := [.int (cb_co (ob_walk (ads sl) z nn u la).1 - cb_co u)]) (ws' := wLw cyI cyZ ad qa wr hm w ((ob_walk (ads sl) z nn u la).1) cb_new ((ob_walk (ads sl) z nn u la).2)) (o_cost l D cyI cyZ cyJ ad wr hm ((ob_walk (ads sl) z nn u la).1) cb_new ((ob_walk (ads sl) z nn u la).2) ) ⟨hx, hb, hown, hts⟩ gL_law_X2_cost rfl ⟨rfl, by decide, by decide, by decide +kernel⟩ ⟨Nat.le_of_ble_eq_true rfl, Nat.le_of_ble_eq_true rfl⟩ ⟨rfl, rfl⟩ hml hl.1 hK hP hD hS hA (ctJ_l (n := 14) (r := 1) (wOo_len _ _ _ _ _ _ _ _) rfl (wOo_len _ _ _ _ _ _ _ _) rfl rfl rfl rfl) (wOo_h _ _ _ _ _ _ _ _) ⟨rfl, rfl⟩ rfl rfl (Nat.le_of_ble_eq_true rfl) hcel dL_law_269 (fun H locs hP hD hS => ?_)
  refine lv_iload hx hb dL_law_272 (lv_at hl 10 rfl) ?_
  refine lv_isub (x := cb_co ((ob_walk (ads sl) z nn u la).1)) (y := cb_co u) hx hb dL_law_274 ?_
  refine lv_icmp_ne (x := cb_co (ob_walk (ads sl) z nn u la).1 - cb_co u) (y := (cb_co ((ob_walk (ads sl) z nn u la).1)) - cb_co u) (tgt := 294) hx hb dL_law_275 (by decide) (fun c1 => ?_) (fun c1 => ?_)
  · exact absurd rfl c1
  · refine lv_aload_n hx hb dL_law_278 rfl (lv_at hl 2 rfl) ?_
    refine CtI.callV (n := 0) (q0 := 0) (ci := 2) (As := []) (rest := []) (ws' := wLw cyI cyZ ad qa wr hm w ((ob_walk (ads sl) z nn u la).1) cb_new ((ob_walk (ads sl) z nn u la).2)) (o_cost l D cyI cyZ cyJ ad wr hm ((ob_walk (ads sl) z nn u la).1) cb_new ((ob_walk (ads sl) z nn u la).2) ) ⟨hx, hb, hown, hts⟩ gL_law_X2_cost rfl ⟨rfl, by decide, by decide, by decide +kernel⟩ ⟨Nat.le_of_ble_eq_true rfl, Nat.le_of_ble_eq_true rfl⟩ ⟨rfl, rfl⟩ hml hl.1 hK hP hD hS hA (ctJ_l (n := 14) (r := 1) (wOo_len _ _ _ _ _ _ _ _) rfl (wOo_len _ _ _ _ _ _ _ _) rfl rfl rfl rfl) (wOo_h _ _ _ _ _ _ _ _) ⟨rfl, rfl⟩ rfl rfl (Nat.le_of_ble_eq_true rfl) hcel dL_law_279 (fun H locs hP hD hS => ?_)
    refine lv_iload hx hb dL_law_282 (lv_at hl 10 rfl) ?_
    refine lv_iload hx hb dL_law_284 (lv_at hl 0 rfl) ?_
    refine lv_iadd (x := cb_co u) (y := nI nn) hx hb dL_law_286 ?_
    refine lv_icmp_lt (x := cb_co ((ob_walk (ads sl) z nn u la).1)) (y := cb_co u + nI nn) (tgt := 294) hx hb dL_law_287 (by decide) (fun c2 => ?_) (fun c2 => ?_)
    · exact absurd c2 (walk_cost hinv (by omega) (by omega))
    · refine lv_iconst (v := nI 1) hx hb dL_law_290 (by decide) ?_
      refine lv_goto (tgt := 295) hx hb dL_law_291 (by decide) ?_
      refine lv_istore_n (lv' := [(3, .int (nI 1)), (11, .int (nI nn)), (0, .ref b), (1, .ref (ad 0)), (2, .ref qa), (4, .int (nI k)), (5, .int (nI x)), (6, .int (nI sl)), (7, .int (nI (x % 16))), (8, .int (cb_hi u)), (9, .int (cb_co u)), (10, .int (nI (cb_where (ads sl / 4) u)))]) hx hb dL_law_295 rfl hl (by decide) rfl (fun ls hl => ?_)
      refine lv_goto (tgt := 519) hx hb dL_law_296 (by decide) ?_
      exact t_tail (x := x) (sl := sl) hC0 kt hk hcel hsl (linv_walk hinv ha (by omega)) (fun h => absurd h (by omega)) hP hD hS (lv_sub hl [2, 3, 4, 0, 5, 7, 8] rfl)
set_option maxRecDepth 100000 in
set_option maxHeartbeats 4000000 in
theorem t_bring (hC : LC p s m args meth c D A cyI cyZ cyJ b L xs) (kt : KT p l e s m args below meth c Q D A cyI cyZ b ad qa cells slots (k + 1)) (hk : k < 150) (hcel : cells ≤ 152 ∧ slots ≤ 4085) (hx3 : x < 30000) (hsl : sl < 64) (hinv : LInv k wr w u la) (hwh : x % 16 = 13) (hP : va_P D vwCl (wLw cyI cyZ ad qa wr hm w u cb_new la) H) (hD : va_D A (wLw cyI cyZ ad qa wr hm w u cb_new la)) (hS : va_S A s.heap H locs) (hl : lv_has ls 13 (lvT b (ad 0) qa k x sl u)) : W p l e room_1 s m args below meth c H locs cells slots Q (F0 m 306 ls []) := by
  have hC0 := hC
  obtain ⟨hx, hb, hown, hts, hml, hK, hA, hX, hbl, hbA, hL⟩ := hC
  obtain ⟨hok, hla, hcf, hbd⟩ := linv_ok hinv
  have ha := ads_lt hsl
  have hw := hinv.2
  have hw3 := where_lt (ads sl / 4) u
  refine lv_aload_n hx hb dL_law_306 rfl (lv_at hl 1 rfl) ?_
  refine CtI.callV (n := 0) (q0 := 0) (ci := 2) (As := []) (rest := []) (ws' := wLw cyI cyZ ad qa wr hm w u cb_new la) (o_dirty l D cyI cyZ cyJ ad wr hm u cb_new la ) ⟨hx, hb, hown, hts⟩ gL_law_X2_dirty rfl ⟨rfl, by decide, by decide, by decide +kernel⟩ ⟨Nat.le_of_ble_eq_true rfl, Nat.le_of_ble_eq_true rfl⟩ ⟨rfl, rfl⟩ hml hl.1 hK hP hD hS hA (ctJ_l (n := 14) (r := 1) (wOo_len _ _ _ _ _ _ _ _) rfl (wOo_len _ _ _ _ _ _ _ _) rfl rfl rfl rfl) (wOo_h _ _ _ _ _ _ _ _) ⟨rfl, rfl⟩ rfl rfl (Nat.le_of_ble_eq_true rfl) hcel dL_law_307 (fun H locs hP hD hS => ?_)
  refine lv_istore (lv' := [(11, .int (nI (cb_dirty u))), (0, .ref b), (1, .ref (ad 0)), (2, .ref qa), (3, .int (nI 1)), (4, .int (nI k)), (5, .int (nI x)), (6, .int (nI sl)), (7, .int (nI (x % 16))), (8, .int (cb_hi u)), (9, .int (cb_co u)), (10, .int (nI (cb_where (ads sl / 4) u)))]) hx hb dL_law_310 hl (by decide) rfl (fun ls hl => ?_)
  refine lv_aload_n hx hb dL_law_312 rfl (lv_at hl 2 rfl) ?_
  refine CtI.callV (n := 0) (q0 := 0) (ci := 2) (As := []) (rest := []) (ws' := wLw cyI cyZ ad qa wr hm w (cb_bring u) cb_new la) (o_bringHome l D cyI cyZ cyJ ad wr hm u cb_new la hbd) ⟨hx, hb, hown, hts⟩ gL_law_X2_bringHome rfl ⟨rfl, by decide, by decide, by decide +kernel⟩ ⟨Nat.le_of_ble_eq_true rfl, Nat.le_of_ble_eq_true rfl⟩ ⟨rfl, rfl⟩ hml hl.1 hK hP hD hS hA (ctJ_l (n := 14) (r := 1) (wOo_len _ _ _ _ _ _ _ _) rfl (wOo_len _ _ _ _ _ _ _ _) rfl rfl rfl rfl) (wOo_h _ _ _ _ _ _ _ _) ⟨rfl, rfl⟩ rfl rfl (Nat.le_of_ble_eq_true rfl) hcel dL_law_313 (fun H locs hP hD hS => ?_)
  obtain ⟨hb1, hb2, hb3⟩ := bring_law hok
  refine lv_iload hx hb dL_law_316 (lv_at hl 0 rfl) ?_
  refine lv_icmp_ne (x := cb_hc (cb_bring u) - cb_hc u) (y := nI (cb_dirty u)) (tgt := 347) hx hb dL_law_318 (by decide) (fun c1 => ?_) (fun c1 => ?_)
  · exact absurd hb1 c1
  · refine lv_aload_n hx hb dL_law_321 rfl (lv_at hl 2 rfl) ?_
    refine CtI.callV (n := 0) (q0 := 0) (ci := 2) (As := []) (rest := []) (ws' := wLw cyI cyZ ad qa wr hm w (cb_bring u) cb_new la) (o_dirty l D cyI cyZ cyJ ad wr hm (cb_bring u) cb_new la ) ⟨hx, hb, hown, hts⟩ gL_law_X2_dirty rfl ⟨rfl, by decide, by decide, by decide +kernel⟩ ⟨Nat.le_of_ble_eq_true rfl, Nat.le_of_ble_eq_true rfl⟩ ⟨rfl, rfl⟩ hml hl.1 hK hP hD hS hA (ctJ_l (n := 14) (r := 1) (wOo_len _ _ _ _ _ _ _ _) rfl (wOo_len _ _ _ _ _ _ _ _) rfl rfl rfl rfl) (wOo_h _ _ _ _ _ _ _ _) ⟨rfl, rfl⟩ rfl rfl (Nat.le_of_ble_eq_true rfl) hcel dL_law_322 (fun H locs hP hD hS => ?_)
    refine mq_nz (x := (cb_dirty (cb_bring u))) (tgt := 347) (by omega) hx hb dL_law_325 (by decide) (fun c2 => ?_) (fun c2 => ?_)
    · exact absurd c2 (by omega)
    · refine lv_aload_n hx hb dL_law_328 rfl (lv_at hl 2 rfl) ?_
      refine CtI.callV (n := 0) (q0 := 0) (ci := 2) (As := []) (rest := []) (ws' := wLw cyI cyZ ad qa wr hm w (cb_bring u) cb_new la) (o_cost l D cyI cyZ cyJ ad wr hm (cb_bring u) cb_new la ) ⟨hx, hb, hown, hts⟩ gL_law_X2_cost rfl ⟨rfl, by decide, by decide, by decide +kernel⟩ ⟨Nat.le_of_ble_eq_true rfl, Nat.le_of_ble_eq_true rfl⟩ ⟨rfl, rfl⟩ hml hl.1 hK hP hD hS hA (ctJ_l (n := 14) (r := 1) (wOo_len _ _ _ _ _ _ _ _) rfl (wOo_len _ _ _ _ _ _ _ _) rfl rfl rfl rfl) (wOo_h _ _ _ _ _ _ _ _) ⟨rfl, rfl⟩ rfl rfl (Nat.le_of_ble_eq_true rfl) hcel dL_law_329 (fun H locs hP hD hS => ?_)
      refine lv_iload hx hb dL_law_332 (lv_at hl 10 rfl) ?_
      refine lv_bipush (v := nI 10) hx hb dL_law_334 (by decide) ?_
      refine lv_iload hx hb dL_law_336 (lv_at hl 0 rfl) ?_
      refine mq_imul (x := 10) (y := (cb_dirty u)) hx hb dL_law_338 ?_
      refine lv_iadd (x := cb_co u) (y := nI (10 * (cb_dirty u))) hx hb dL_law_339 ?_
      refine lv_icmp_ne (x := cb_co (cb_bring u)) (y := cb_co u + (nI (10 * (cb_dirty u)))) (tgt := 347) hx hb dL_law_340 (by decide) (fun c3 => ?_) (fun c3 => ?_)
      · exact absurd hb3 c3
      · refine lv_iconst (v := nI 1) hx hb dL_law_343 (by decide) ?_
        refine lv_goto (tgt := 348) hx hb dL_law_344 (by decide) ?_
        refine lv_istore_n (lv' := [(3, .int (nI 1)), (11, .int (nI (cb_dirty u))), (0, .ref b), (1, .ref (ad 0)), (2, .ref qa), (4, .int (nI k)), (5, .int (nI x)), (6, .int (nI sl)), (7, .int (nI (x % 16))), (8, .int (cb_hi u)), (9, .int (cb_co u)), (10, .int (nI (cb_where (ads sl / 4) u)))]) hx hb dL_law_348 rfl hl (by decide) rfl (fun ls hl => ?_)
        refine lv_goto (tgt := 519) hx hb dL_law_349 (by decide) ?_
        exact t_tail (x := x) (sl := sl) hC0 kt hk hcel hsl (linv_bring hinv) (fun h => absurd h (by omega)) hP hD hS (lv_sub hl [2, 3, 4, 0, 5, 7, 8] rfl)
set_option maxRecDepth 100000 in
set_option maxHeartbeats 4000000 in
theorem t_build (hC : LC p s m args meth c D A cyI cyZ cyJ b L xs) (kt : KT p l e s m args below meth c Q D A cyI cyZ b ad qa cells slots (k + 1)) (hk : k < 150) (hcel : cells ≤ 152 ∧ slots ≤ 4085) (hx3 : x < 30000) (hsl : sl < 64) (hinv : LInv k wr w u la) (hwh : x % 16 = 14) (hP : va_P D vwCl (wLw cyI cyZ ad qa wr hm w u cb_new la) H) (hD : va_D A (wLw cyI cyZ ad qa wr hm w u cb_new la)) (hS : va_S A s.heap H locs) (hl : lv_has ls 13 (lvT b (ad 0) qa k x sl u)) : W p l e room_1 s m args below meth c H locs cells slots Q (F0 m 366 ls []) := by
  have hC0 := hC
  obtain ⟨hx, hb, hown, hts, hml, hK, hA, hX, hbl, hbA, hL⟩ := hC
  obtain ⟨hok, hla, hcf, hbd⟩ := linv_ok hinv
  have ha := ads_lt hsl
  have hw := hinv.2
  have hw3 := where_lt (ads sl / 4) u
  obtain ⟨s', hs'⟩ : ∃ s' : Nat, 2 ^ (x / 16 % 5) = s' := ⟨_, rfl⟩
  obtain ⟨p', hp'⟩ : ∃ p' : Nat, x / 80 % 9 = p' := ⟨_, rfl⟩
  obtain ⟨hsh, hs5⟩ := shl5 (y := x / 16 % 5) (by omega)
  rw [hs'] at hsh hs5
  have hdl := dirty_le hok
  have hll := lines_le hok
  obtain ⟨hb1, hb2, hb3⟩ := bring_law hok
  refine lv_aload_n hx hb dL_law_366 rfl (lv_at hl 1 rfl) ?_
  refine CtI.callV (n := 0) (q0 := 0) (ci := 2) (As := []) (rest := []) (ws' := wLw cyI cyZ ad qa wr hm w u cb_new la) (o_dirty l D cyI cyZ cyJ ad wr hm u cb_new la ) ⟨hx, hb, hown, hts⟩ gL_law_X2_dirty rfl ⟨rfl, by decide, by decide, by decide +kernel⟩ ⟨Nat.le_of_ble_eq_true rfl, Nat.le_of_ble_eq_true rfl⟩ ⟨rfl, rfl⟩ hml hl.1 hK hP hD hS hA (ctJ_l (n := 14) (r := 1) (wOo_len _ _ _ _ _ _ _ _) rfl (wOo_len _ _ _ _ _ _ _ _) rfl rfl rfl rfl) (wOo_h _ _ _ _ _ _ _ _) ⟨rfl, rfl⟩ rfl rfl (Nat.le_of_ble_eq_true rfl) hcel dL_law_367 (fun H locs hP hD hS => ?_)
  refine lv_istore (lv' := [(11, .int (nI (cb_dirty u))), (0, .ref b), (1, .ref (ad 0)), (2, .ref qa), (3, .int (nI 1)), (4, .int (nI k)), (5, .int (nI x)), (6, .int (nI sl)), (7, .int (nI (x % 16))), (8, .int (cb_hi u)), (9, .int (cb_co u)), (10, .int (nI (cb_where (ads sl / 4) u)))]) hx hb dL_law_370 hl (by decide) rfl (fun ls hl => ?_)
  refine lv_aload_n hx hb dL_law_372 rfl (lv_at hl 2 rfl) ?_
  refine lv_iconst (v := nI 1) hx hb dL_law_373 (by decide) ?_
  refine lv_iload hx hb dL_law_374 (lv_at hl 6 rfl) ?_
  refine lv_bipush (v := nI 16) hx hb dL_law_376 (by decide) ?_
  refine mq_idiv (x := x) (y := 16) (by omega) (by omega) (by omega) hx hb dL_law_378 ?_
  refine lv_iconst (v := nI 5) hx hb dL_law_379 (by decide) ?_
  refine mq_irem (x := (x / 16)) (y := 5) (by omega) (by omega) (by omega) hx hb dL_law_380 ?_
  refine lv_ishl (x := nI 1) (y := nI ((x / 16) % 5)) hx hb dL_law_381 ?_
  rw [hsh]
  refine lv_iload hx hb dL_law_382 (lv_at hl 6 rfl) ?_
  refine lv_bipush (v := nI 80) hx hb dL_law_384 (by decide) ?_
  refine mq_idiv (x := x) (y := 80) (by omega) (by omega) (by omega) hx hb dL_law_386 ?_
  refine lv_bipush (v := nI 9) hx hb dL_law_387 (by decide) ?_
  refine mq_irem (x := (x / 80)) (y := 9) (by omega) (by omega) (by omega) hx hb dL_law_389 ?_
  rw [show nI ((x / 80) % 9) = nI p' from (by rw [hp'])]
  refine CtI.callV (n := 2) (q0 := 0) (ci := 2) (As := [.int (nI s'), .int (nI p')]) (rest := []) (ws' := wLw cyI cyZ ad qa wr hm w (cb_empty s' p' (cb_bring u)) cb_new la) (o_build l D cyI cyZ cyJ ad wr hm u cb_new la s' p' hbd hs5 (by omega)) ⟨hx, hb, hown, hts⟩ gL_law_X2_build rfl ⟨rfl, by decide, by decide, by decide +kernel⟩ ⟨Nat.le_of_ble_eq_true rfl, Nat.le_of_ble_eq_true rfl⟩ ⟨rfl, rfl⟩ hml hl.1 hK hP hD hS hA (ctJ_l (n := 14) (r := 1) (wOo_len _ _ _ _ _ _ _ _) rfl (wOo_len _ _ _ _ _ _ _ _) rfl rfl rfl rfl) (wOo_h _ _ _ _ _ _ _ _) ⟨rfl, rfl⟩ rfl rfl (Nat.le_of_ble_eq_true rfl) hcel dL_law_390 (fun H locs hP hD hS => ?_)
  refine lv_iload hx hb dL_law_393 (lv_at hl 0 rfl) ?_
  refine mq_lt (x := (cb_lines u)) (y := (cb_dirty u)) (tgt := 424) (by omega) (by omega) hx hb dL_law_395 (by decide) (fun c1 => ?_) (fun c1 => ?_)
  · exact absurd c1 (by omega)
  · refine lv_aload_n hx hb dL_law_398 rfl (lv_at hl 2 rfl) ?_
    refine CtI.callV (n := 0) (q0 := 0) (ci := 2) (As := []) (rest := []) (ws' := wLw cyI cyZ ad qa wr hm w (cb_empty s' p' (cb_bring u)) cb_new la) (o_cost l D cyI cyZ cyJ ad wr hm (cb_empty s' p' (cb_bring u)) cb_new la ) ⟨hx, hb, hown, hts⟩ gL_law_X2_cost rfl ⟨rfl, by decide, by decide, by decide +kernel⟩ ⟨Nat.le_of_ble_eq_true rfl, Nat.le_of_ble_eq_true rfl⟩ ⟨rfl, rfl⟩ hml hl.1 hK hP hD hS hA (ctJ_l (n := 14) (r := 1) (wOo_len _ _ _ _ _ _ _ _) rfl (wOo_len _ _ _ _ _ _ _ _) rfl rfl rfl rfl) (wOo_h _ _ _ _ _ _ _ _) ⟨rfl, rfl⟩ rfl rfl (Nat.le_of_ble_eq_true rfl) hcel dL_law_399 (fun H locs hP hD hS => ?_)
    refine lv_iload hx hb dL_law_402 (lv_at hl 10 rfl) ?_
    refine lv_bipush (v := nI 10) hx hb dL_law_404 (by decide) ?_
    refine lv_iload hx hb dL_law_406 (lv_at hl 0 rfl) ?_
    refine mq_imul (x := 10) (y := (cb_dirty u)) hx hb dL_law_408 ?_
    refine lv_iadd (x := cb_co u) (y := nI (10 * (cb_dirty u))) hx hb dL_law_409 ?_
    refine lv_icmp_ne (x := cb_co (cb_empty s' p' (cb_bring u))) (y := cb_co u + (nI (10 * (cb_dirty u)))) (tgt := 424) hx hb dL_law_410 (by decide) (fun c2 => ?_) (fun c2 => ?_)
    · exact absurd ((co_empty _ _ _).trans hb3) c2
    · refine lv_aload_n hx hb dL_law_413 rfl (lv_at hl 2 rfl) ?_
      refine CtI.callV (n := 0) (q0 := 0) (ci := 2) (As := []) (rest := []) (ws' := wLw cyI cyZ ad qa wr hm w (cb_empty s' p' (cb_bring u)) cb_new la) (o_sitting l D cyI cyZ cyJ ad wr hm (cb_empty s' p' (cb_bring u)) cb_new la ) ⟨hx, hb, hown, hts⟩ gL_law_X2_sitting rfl ⟨rfl, by decide, by decide, by decide +kernel⟩ ⟨Nat.le_of_ble_eq_true rfl, Nat.le_of_ble_eq_true rfl⟩ ⟨rfl, rfl⟩ hml hl.1 hK hP hD hS hA (ctJ_l (n := 14) (r := 1) (wOo_len _ _ _ _ _ _ _ _) rfl (wOo_len _ _ _ _ _ _ _ _) rfl rfl rfl rfl) (wOo_h _ _ _ _ _ _ _ _) ⟨rfl, rfl⟩ rfl rfl (Nat.le_of_ble_eq_true rfl) hcel dL_law_414 (fun H locs hP hD hS => ?_)
      refine mq_nz (x := ((cb_empty s' p' (cb_bring u)).2.2.2.2.1)) (tgt := 424) (by rw [n_empty]; omega) hx hb dL_law_417 (by decide) (fun c3 => ?_) (fun c3 => ?_)
      · exact absurd c3 (by rw [n_empty]; omega)
      · refine lv_iconst (v := nI 1) hx hb dL_law_420 (by decide) ?_
        refine lv_goto (tgt := 425) hx hb dL_law_421 (by decide) ?_
        refine lv_istore_n (lv' := [(3, .int (nI 1)), (11, .int (nI (cb_dirty u))), (0, .ref b), (1, .ref (ad 0)), (2, .ref qa), (4, .int (nI k)), (5, .int (nI x)), (6, .int (nI sl)), (7, .int (nI (x % 16))), (8, .int (cb_hi u)), (9, .int (cb_co u)), (10, .int (nI (cb_where (ads sl / 4) u)))]) hx hb dL_law_425 rfl hl (by decide) rfl (fun ls hl => ?_)
        refine lv_goto (tgt := 519) hx hb dL_law_426 (by decide) ?_
        exact t_tail (x := x) (sl := sl) hC0 kt hk hcel hsl (linv_build hinv hs5 (by omega)) (fun h => absurd h (by omega)) hP hD hS (lv_sub hl [2, 3, 4, 0, 5, 7, 8] rfl)
set_option maxRecDepth 100000 in
set_option maxHeartbeats 4000000 in
theorem t_cast (hC : LC p s m args meth c D A cyI cyZ cyJ b L xs) (kt : KT p l e s m args below meth c Q D A cyI cyZ b ad qa cells slots (k + 1)) (hk : k < 150) (hcel : cells ≤ 152 ∧ slots ≤ 4085) (hx3 : x < 30000) (hsl : sl < 64) (hinv : LInv k wr w u la) (hwh : 12 < x % 16) (hP : va_P D vwCl (wLw cyI cyZ ad qa wr hm w u cb_new la) H) (hD : va_D A (wLw cyI cyZ ad qa wr hm w u cb_new la)) (hS : va_S A s.heap H locs) (hl : lv_has ls 13 (lvT b (ad 0) qa k x sl u)) : W p l e room_1 s m args below meth c H locs cells slots Q (F0 m 429 ls []) := by
  have hC0 := hC
  obtain ⟨hx, hb, hown, hts, hml, hK, hA, hX, hbl, hbA, hL⟩ := hC
  obtain ⟨hok, hla, hcf, hbd⟩ := linv_ok hinv
  have ha := ads_lt hsl
  have hw := hinv.2
  have hw3 := where_lt (ads sl / 4) u
  obtain ⟨hs5, hpl8, hnp⟩ := ok_sizes hok
  have hst2 := Nat.mod_lt (x / 16) (show 0 < u.1 by omega)
  obtain ⟨st, hst⟩ : ∃ st : Nat, x / 16 % u.1 = st := ⟨_, rfl⟩
  rw [hst] at hst2
  refine lv_iload hx hb dL_law_429 (lv_at hl 5 rfl) ?_
  refine lv_bipush (v := nI 16) hx hb dL_law_431 (by decide) ?_
  refine mq_idiv (x := x) (y := 16) (by omega) (by omega) (by omega) hx hb dL_law_433 ?_
  refine lv_aload_n hx hb dL_law_434 rfl (lv_at hl 1 rfl) ?_
  refine CtI.callV (n := 0) (q0 := 0) (ci := 2) (As := []) (rest := [.int (nI (x / 16))]) (ws' := wLw cyI cyZ ad qa wr hm w u cb_new la) (o_sets l D cyI cyZ cyJ ad wr hm u cb_new la ) ⟨hx, hb, hown, hts⟩ gL_law_X2_sets rfl ⟨rfl, by decide, by decide, by decide +kernel⟩ ⟨Nat.le_of_ble_eq_true rfl, Nat.le_of_ble_eq_true rfl⟩ ⟨rfl, rfl⟩ hml hl.1 hK hP hD hS hA (ctJ_l (n := 14) (r := 1) (wOo_len _ _ _ _ _ _ _ _) rfl (wOo_len _ _ _ _ _ _ _ _) rfl rfl rfl rfl) (wOo_h _ _ _ _ _ _ _ _) ⟨rfl, rfl⟩ rfl rfl (Nat.le_of_ble_eq_true rfl) hcel dL_law_435 (fun H locs hP hD hS => ?_)
  refine mq_irem (x := (x / 16)) (y := u.1) (by omega) (by omega) (by omega) hx hb dL_law_438 ?_
  rw [show nI ((x / 16) % u.1) = nI st from (by rw [hst])]
  refine lv_istore (lv' := [(11, .int (nI st)), (0, .ref b), (1, .ref (ad 0)), (2, .ref qa), (3, .int (nI 1)), (4, .int (nI k)), (5, .int (nI x)), (6, .int (nI sl)), (7, .int (nI (x % 16))), (8, .int (cb_hi u)), (9, .int (cb_co u)), (10, .int (nI (cb_where (ads sl / 4) u)))]) hx hb dL_law_439 hl (by decide) rfl (fun ls hl => ?_)
  refine lv_aload_n hx hb dL_law_441 rfl (lv_at hl 2 rfl) ?_
  refine lv_iload hx hb dL_law_442 (lv_at hl 0 rfl) ?_
  refine CtI.callV (n := 1) (q0 := 0) (ci := 2) (As := [.int (nI st)]) (rest := []) (ws' := wLw cyI cyZ ad qa wr hm w u cb_new la) (o_lineIn l D cyI cyZ cyJ ad wr hm u cb_new la st hbd (by omega)) ⟨hx, hb, hown, hts⟩ gL_law_X2_lineIn rfl ⟨rfl, by decide, by decide, by decide +kernel⟩ ⟨Nat.le_of_ble_eq_true rfl, Nat.le_of_ble_eq_true rfl⟩ ⟨rfl, rfl⟩ hml hl.1 hK hP hD hS hA (ctJ_l (n := 14) (r := 1) (wOo_len _ _ _ _ _ _ _ _) rfl (wOo_len _ _ _ _ _ _ _ _) rfl rfl rfl rfl) (wOo_h _ _ _ _ _ _ _ _) ⟨rfl, rfl⟩ rfl rfl (Nat.le_of_ble_eq_true rfl) hcel dL_law_444 (fun H locs hP hD hS => ?_)
  rcases hln : cb_ln u st with _ | q
  · refine lv_istore (lv' := [(12, .int (-1)), (11, .int (nI st)), (0, .ref b), (1, .ref (ad 0)), (2, .ref qa), (3, .int (nI 1)), (4, .int (nI k)), (5, .int (nI x)), (6, .int (nI sl)), (7, .int (nI (x % 16))), (8, .int (cb_hi u)), (9, .int (cb_co u)), (10, .int (nI (cb_where (ads sl / 4) u)))]) hx hb dL_law_447 hl (by decide) rfl (fun ls hl => ?_)
    refine lv_iload hx hb dL_law_449 (lv_at hl 0 rfl) ?_
    refine lv_if_lt (x := -1) (tgt := 513) hx hb dL_law_451 (by decide) (fun c1 => ?_) (fun c1 => ?_)
    · refine lv_iconst (v := nI 1) hx hb dL_law_513 (by decide) ?_
      refine lv_goto (tgt := 518) hx hb dL_law_514 (by decide) ?_
      refine lv_istore_n (lv' := [(3, .int (nI 1)), (12, .int (-1)), (11, .int (nI st)), (0, .ref b), (1, .ref (ad 0)), (2, .ref qa), (4, .int (nI k)), (5, .int (nI x)), (6, .int (nI sl)), (7, .int (nI (x % 16))), (8, .int (cb_hi u)), (9, .int (cb_co u)), (10, .int (nI (cb_where (ads sl / 4) u)))]) hx hb dL_law_518 rfl hl (by decide) rfl (fun ls hl => ?_)
      exact t_tail (x := x) (sl := sl) hC0 kt hk hcel hsl (linv_same hinv) (fun h => absurd h (by omega)) hP hD hS (lv_sub hl [3, 4, 5, 0, 6, 8, 9] rfl)
    · exact absurd (by decide) c1
  · obtain ⟨hq1, hq2, hq3⟩ := ok_line hok hln
    obtain ⟨hcp, hcs⟩ := cast_pl st u
    have hok2 := ok_throw (s := st) hok
    have hbd2 := ok_of hok2
    refine lv_istore (lv' := [(12, .int (nI q)), (11, .int (nI st)), (0, .ref b), (1, .ref (ad 0)), (2, .ref qa), (3, .int (nI 1)), (4, .int (nI k)), (5, .int (nI x)), (6, .int (nI sl)), (7, .int (nI (x % 16))), (8, .int (cb_hi u)), (9, .int (cb_co u)), (10, .int (nI (cb_where (ads sl / 4) u)))]) hx hb dL_law_447 hl (by decide) rfl (fun ls hl => ?_)
    refine lv_iload hx hb dL_law_449 (lv_at hl 0 rfl) ?_
    refine lv_if_lt (x := nI q) (tgt := 513) hx hb dL_law_451 (by decide) (fun c1 => ?_) (fun c1 => ?_)
    · exact absurd c1 (nI_pos (by omega))
    · refine lv_aload_n hx hb dL_law_454 rfl (lv_at hl 3 rfl) ?_
      refine lv_iload hx hb dL_law_455 (lv_at hl 1 rfl) ?_
      refine CtI.callV (n := 1) (q0 := 0) (ci := 2) (As := [.int (nI st)]) (rest := []) (ws' := wLw cyI cyZ ad qa wr hm w (cb_throw st u) cb_new la) (o_cast l D cyI cyZ cyJ ad wr hm u cb_new la st q hbd hst2 hln) ⟨hx, hb, hown, hts⟩ gL_law_X2_cast rfl ⟨rfl, by decide, by decide, by decide +kernel⟩ ⟨Nat.le_of_ble_eq_true rfl, Nat.le_of_ble_eq_true rfl⟩ ⟨rfl, rfl⟩ hml hl.1 hK hP hD hS hA (ctJ_l (n := 14) (r := 1) (wOo_len _ _ _ _ _ _ _ _) rfl (wOo_len _ _ _ _ _ _ _ _) rfl rfl rfl rfl) (wOo_h _ _ _ _ _ _ _ _) ⟨rfl, rfl⟩ rfl rfl (Nat.le_of_ble_eq_true rfl) hcel dL_law_457 (fun H locs hP hD hS => ?_)
      refine lv_iload hx hb dL_law_460 (lv_at hl 0 rfl) ?_
      refine mq_ne (x := q) (y := q) (tgt := 517) (by omega) (by omega) hx hb dL_law_462 (by decide) (fun c2 => ?_) (fun c2 => ?_)
      · exact absurd rfl c2
      · refine lv_aload_n hx hb dL_law_465 rfl (lv_at hl 3 rfl) ?_
        refine lv_iload hx hb dL_law_466 (lv_at hl 1 rfl) ?_
        refine CtI.callV (n := 1) (q0 := 0) (ci := 2) (As := [.int (nI st)]) (rest := []) (ws' := wLw cyI cyZ ad qa wr hm w (cb_throw st u) cb_new la) (o_lineIn l D cyI cyZ cyJ ad wr hm (cb_throw st u) cb_new la st hbd2 (by omega)) ⟨hx, hb, hown, hts⟩ gL_law_X2_lineIn rfl ⟨rfl, by decide, by decide, by decide +kernel⟩ ⟨Nat.le_of_ble_eq_true rfl, Nat.le_of_ble_eq_true rfl⟩ ⟨rfl, rfl⟩ hml hl.1 hK hP hD hS hA (ctJ_l (n := 14) (r := 1) (wOo_len _ _ _ _ _ _ _ _) rfl (wOo_len _ _ _ _ _ _ _ _) rfl rfl rfl rfl) (wOo_h _ _ _ _ _ _ _ _) ⟨rfl, rfl⟩ rfl rfl (Nat.le_of_ble_eq_true rfl) hcel dL_law_468 (fun H locs hP hD hS => ?_)
        rw [show oI (cb_ln (cb_throw st u) st) = (-1) from (by rw [(throw_ln st u).1]; rfl)]
        refine lv_iconst (v := -1) hx hb dL_law_471 (by decide) ?_
        refine lv_icmp_ne (x := -1) (y := -1) (tgt := 517) hx hb dL_law_472 (by decide) (fun c3 => ?_) (fun c3 => ?_)
        · exact absurd rfl c3
        · refine lv_aload_n hx hb dL_law_475 rfl (lv_at hl 3 rfl) ?_
          refine lv_iload hx hb dL_law_476 (lv_at hl 0 rfl) ?_
          refine CtI.callV (n := 1) (q0 := 0) (ci := 2) (As := [.int (nI q)]) (rest := []) (ws' := wLw cyI cyZ ad qa wr hm w (cb_throw st u) cb_new la) (o_placeOf l D cyI cyZ cyJ ad wr hm (cb_throw st u) cb_new la q hbd2 (by omega)) ⟨hx, hb, hown, hts⟩ gL_law_X2_placeOf rfl ⟨rfl, by decide, by decide, by decide +kernel⟩ ⟨Nat.le_of_ble_eq_true rfl, Nat.le_of_ble_eq_true rfl⟩ ⟨rfl, rfl⟩ hml hl.1 hK hP hD hS hA (ctJ_l (n := 14) (r := 1) (wOo_len _ _ _ _ _ _ _ _) rfl (wOo_len _ _ _ _ _ _ _ _) rfl rfl rfl rfl) (wOo_h _ _ _ _ _ _ _ _) ⟨rfl, rfl⟩ rfl rfl (Nat.le_of_ble_eq_true rfl) hcel dL_law_478 (fun H locs hP hD hS => ?_)
          refine lv_aload_n hx hb dL_law_481 rfl (lv_at hl 3 rfl) ?_
          refine CtI.callV (n := 0) (q0 := 0) (ci := 2) (As := []) (rest := [.int (nI (cb_where q (cb_throw st u)))]) (ws' := wLw cyI cyZ ad qa wr hm w (cb_throw st u) cb_new la) (o_places l D cyI cyZ cyJ ad wr hm (cb_throw st u) cb_new la ) ⟨hx, hb, hown, hts⟩ gL_law_X2_places rfl ⟨rfl, by decide, by decide, by decide +kernel⟩ ⟨Nat.le_of_ble_eq_true rfl, Nat.le_of_ble_eq_true rfl⟩ ⟨rfl, rfl⟩ hml hl.1 hK hP hD hS hA (ctJ_l (n := 14) (r := 1) (wOo_len _ _ _ _ _ _ _ _) rfl (wOo_len _ _ _ _ _ _ _ _) rfl rfl rfl rfl) (wOo_h _ _ _ _ _ _ _ _) ⟨rfl, rfl⟩ rfl rfl (Nat.le_of_ble_eq_true rfl) hcel dL_law_482 (fun H locs hP hD hS => ?_)
          refine mq_nz (x := ((cb_throw st u).2.1)) (tgt := 492) (by omega) hx hb dL_law_485 (by decide) (fun c4 => ?_) (fun c4 => ?_)
          · refine lv_iconst (v := nI 2) hx hb dL_law_492 (by decide) ?_
            refine mq_ne (x := (cb_where q (cb_throw st u))) (y := 2) (tgt := 517) (by have := where_lt q (cb_throw st u); omega) (by omega) hx hb dL_law_493 (by decide) (fun c5 => ?_) (fun c5 => ?_)
            · exact absurd (cast_2 hok hln (by omega)) c5
            · refine lv_aload_n hx hb dL_law_496 rfl (lv_at hl 3 rfl) ?_
              refine CtI.callV (n := 0) (q0 := 0) (ci := 2) (As := []) (rest := []) (ws' := wLw cyI cyZ ad qa wr hm w (cb_throw st u) cb_new la) (o_places l D cyI cyZ cyJ ad wr hm (cb_throw st u) cb_new la ) ⟨hx, hb, hown, hts⟩ gL_law_X2_places rfl ⟨rfl, by decide, by decide, by decide +kernel⟩ ⟨Nat.le_of_ble_eq_true rfl, Nat.le_of_ble_eq_true rfl⟩ ⟨rfl, rfl⟩ hml hl.1 hK hP hD hS hA (ctJ_l (n := 14) (r := 1) (wOo_len _ _ _ _ _ _ _ _) rfl (wOo_len _ _ _ _ _ _ _ _) rfl rfl rfl rfl) (wOo_h _ _ _ _ _ _ _ _) ⟨rfl, rfl⟩ rfl rfl (Nat.le_of_ble_eq_true rfl) hcel dL_law_497 (fun H locs hP hD hS => ?_)
              refine mq_z (x := ((cb_throw st u).2.1)) (tgt := 513) (by omega) hx hb dL_law_500 (by decide) (fun c6 => ?_) (fun c6 => ?_)
              · refine lv_iconst (v := nI 1) hx hb dL_law_513 (by decide) ?_
                refine lv_goto (tgt := 518) hx hb dL_law_514 (by decide) ?_
                refine lv_istore_n (lv' := [(3, .int (nI 1)), (12, .int (nI q)), (11, .int (nI st)), (0, .ref b), (1, .ref (ad 0)), (2, .ref qa), (4, .int (nI k)), (5, .int (nI x)), (6, .int (nI sl)), (7, .int (nI (x % 16))), (8, .int (cb_hi u)), (9, .int (cb_co u)), (10, .int (nI (cb_where (ads sl / 4) u)))]) hx hb dL_law_518 rfl hl (by decide) rfl (fun ls hl => ?_)
                exact t_tail (x := x) (sl := sl) hC0 kt hk hcel hsl (linv_cast hinv) (fun h => absurd h (by omega)) hP hD hS (lv_sub hl [3, 4, 5, 0, 6, 8, 9] rfl)
              · refine lv_aload_n hx hb dL_law_503 rfl (lv_at hl 3 rfl) ?_
                refine lv_iconst (v := nI 0) hx hb dL_law_504 (by decide) ?_
                refine CtI.callV (n := 1) (q0 := 0) (ci := 2) (As := [.int (nI 0)]) (rest := []) (ws' := wLw cyI cyZ ad qa wr hm w (cb_throw st u) cb_new la) (o_lineOnBench l D cyI cyZ cyJ ad wr hm (cb_throw st u) cb_new la 0 hbd2 (cast_1 hln (by omega)).1) ⟨hx, hb, hown, hts⟩ gL_law_X2_lineOnBench rfl ⟨rfl, by decide, by decide, by decide +kernel⟩ ⟨Nat.le_of_ble_eq_true rfl, Nat.le_of_ble_eq_true rfl⟩ ⟨rfl, rfl⟩ hml hl.1 hK hP hD hS hA (ctJ_l (n := 14) (r := 1) (wOo_len _ _ _ _ _ _ _ _) rfl (wOo_len _ _ _ _ _ _ _ _) rfl rfl rfl rfl) (wOo_h _ _ _ _ _ _ _ _) ⟨rfl, rfl⟩ rfl rfl (Nat.le_of_ble_eq_true rfl) hcel dL_law_505 (fun H locs hP hD hS => ?_)
                refine lv_iload hx hb dL_law_508 (lv_at hl 0 rfl) ?_
                refine mq_ne (x := ((cb_throw st u).2.2.2.1 ((cb_throw st u).2.2.2.2.1 - 1 - 0))) (y := q) (tgt := 517) (by rw [(cast_1 hln (by omega)).2]; omega) (by omega) hx hb dL_law_510 (by decide) (fun c7 => ?_) (fun c7 => ?_)
                · exact absurd (cast_1 hln (by omega)).2 c7
                · refine lv_iconst (v := nI 1) hx hb dL_law_513 (by decide) ?_
                  refine lv_goto (tgt := 518) hx hb dL_law_514 (by decide) ?_
                  refine lv_istore_n (lv' := [(3, .int (nI 1)), (12, .int (nI q)), (11, .int (nI st)), (0, .ref b), (1, .ref (ad 0)), (2, .ref qa), (4, .int (nI k)), (5, .int (nI x)), (6, .int (nI sl)), (7, .int (nI (x % 16))), (8, .int (cb_hi u)), (9, .int (cb_co u)), (10, .int (nI (cb_where (ads sl / 4) u)))]) hx hb dL_law_518 rfl hl (by decide) rfl (fun ls hl => ?_)
                  exact t_tail (x := x) (sl := sl) hC0 kt hk hcel hsl (linv_cast hinv) (fun h => absurd h (by omega)) hP hD hS (lv_sub hl [3, 4, 5, 0, 6, 8, 9] rfl)
          · refine lv_iconst (v := nI 0) hx hb dL_law_488 (by decide) ?_
            refine lv_goto (tgt := 493) hx hb dL_law_489 (by decide) ?_
            refine mq_ne (x := (cb_where q (cb_throw st u))) (y := 0) (tgt := 517) (by have := where_lt q (cb_throw st u); omega) (by omega) hx hb dL_law_493 (by decide) (fun c5 => ?_) (fun c5 => ?_)
            · exact absurd (cast_0 hok hln (by omega)) c5
            · refine lv_aload_n hx hb dL_law_496 rfl (lv_at hl 3 rfl) ?_
              refine CtI.callV (n := 0) (q0 := 0) (ci := 2) (As := []) (rest := []) (ws' := wLw cyI cyZ ad qa wr hm w (cb_throw st u) cb_new la) (o_places l D cyI cyZ cyJ ad wr hm (cb_throw st u) cb_new la ) ⟨hx, hb, hown, hts⟩ gL_law_X2_places rfl ⟨rfl, by decide, by decide, by decide +kernel⟩ ⟨Nat.le_of_ble_eq_true rfl, Nat.le_of_ble_eq_true rfl⟩ ⟨rfl, rfl⟩ hml hl.1 hK hP hD hS hA (ctJ_l (n := 14) (r := 1) (wOo_len _ _ _ _ _ _ _ _) rfl (wOo_len _ _ _ _ _ _ _ _) rfl rfl rfl rfl) (wOo_h _ _ _ _ _ _ _ _) ⟨rfl, rfl⟩ rfl rfl (Nat.le_of_ble_eq_true rfl) hcel dL_law_497 (fun H locs hP hD hS => ?_)
              refine mq_z (x := ((cb_throw st u).2.1)) (tgt := 513) (by omega) hx hb dL_law_500 (by decide) (fun c6 => ?_) (fun c6 => ?_)
              · refine lv_iconst (v := nI 1) hx hb dL_law_513 (by decide) ?_
                refine lv_goto (tgt := 518) hx hb dL_law_514 (by decide) ?_
                refine lv_istore_n (lv' := [(3, .int (nI 1)), (12, .int (nI q)), (11, .int (nI st)), (0, .ref b), (1, .ref (ad 0)), (2, .ref qa), (4, .int (nI k)), (5, .int (nI x)), (6, .int (nI sl)), (7, .int (nI (x % 16))), (8, .int (cb_hi u)), (9, .int (cb_co u)), (10, .int (nI (cb_where (ads sl / 4) u)))]) hx hb dL_law_518 rfl hl (by decide) rfl (fun ls hl => ?_)
                exact t_tail (x := x) (sl := sl) hC0 kt hk hcel hsl (linv_cast hinv) (fun h => absurd h (by omega)) hP hD hS (lv_sub hl [3, 4, 5, 0, 6, 8, 9] rfl)
              · refine lv_aload_n hx hb dL_law_503 rfl (lv_at hl 3 rfl) ?_
                refine lv_iconst (v := nI 0) hx hb dL_law_504 (by decide) ?_
                refine CtI.callV (n := 1) (q0 := 0) (ci := 2) (As := [.int (nI 0)]) (rest := []) (ws' := wLw cyI cyZ ad qa wr hm w (cb_throw st u) cb_new la) (o_lineOnBench l D cyI cyZ cyJ ad wr hm (cb_throw st u) cb_new la 0 hbd2 (cast_1 hln (by omega)).1) ⟨hx, hb, hown, hts⟩ gL_law_X2_lineOnBench rfl ⟨rfl, by decide, by decide, by decide +kernel⟩ ⟨Nat.le_of_ble_eq_true rfl, Nat.le_of_ble_eq_true rfl⟩ ⟨rfl, rfl⟩ hml hl.1 hK hP hD hS hA (ctJ_l (n := 14) (r := 1) (wOo_len _ _ _ _ _ _ _ _) rfl (wOo_len _ _ _ _ _ _ _ _) rfl rfl rfl rfl) (wOo_h _ _ _ _ _ _ _ _) ⟨rfl, rfl⟩ rfl rfl (Nat.le_of_ble_eq_true rfl) hcel dL_law_505 (fun H locs hP hD hS => ?_)
                refine lv_iload hx hb dL_law_508 (lv_at hl 0 rfl) ?_
                refine mq_ne (x := ((cb_throw st u).2.2.2.1 ((cb_throw st u).2.2.2.2.1 - 1 - 0))) (y := q) (tgt := 517) (by rw [(cast_1 hln (by omega)).2]; omega) (by omega) hx hb dL_law_510 (by decide) (fun c7 => ?_) (fun c7 => ?_)
                · exact absurd (cast_1 hln (by omega)).2 c7
                · refine lv_iconst (v := nI 1) hx hb dL_law_513 (by decide) ?_
                  refine lv_goto (tgt := 518) hx hb dL_law_514 (by decide) ?_
                  refine lv_istore_n (lv' := [(3, .int (nI 1)), (12, .int (nI q)), (11, .int (nI st)), (0, .ref b), (1, .ref (ad 0)), (2, .ref qa), (4, .int (nI k)), (5, .int (nI x)), (6, .int (nI sl)), (7, .int (nI (x % 16))), (8, .int (cb_hi u)), (9, .int (cb_co u)), (10, .int (nI (cb_where (ads sl / 4) u)))]) hx hb dL_law_518 rfl hl (by decide) rfl (fun ls hl => ?_)
                  exact t_tail (x := x) (sl := sl) hC0 kt hk hcel hsl (linv_cast hinv) (fun h => absurd h (by omega)) hP hD hS (lv_sub hl [3, 4, 5, 0, 6, 8, 9] rfl)
end
end

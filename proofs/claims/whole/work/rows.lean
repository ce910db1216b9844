section
-- ===== PART A: goes FIRST, ahead of the names: the tables' words, and 'selects' of the private methods out of them =====
/-- a private method of a class that the tables say can be made, by its rows of tables_1 -/
def lw_okq (q : MethodName × Nat) : Prop := (q.1.cls ≠ "java/lang/invoke/MethodHandle" ∧ q.1.cls ≠ "java/lang/invoke/VarHandle") ∧ Cond.instantiable q.1.cls q.2 ∈ tables_1 ∧ Cond.privateMethod q.1 ∈ tables_1 ∧ Cond.instanceMethod q.1 ∈ tables_1
theorem lw_p0 : lw_okq (⟨"OutcastBench$CacheAndBench", "bringHomeIfDirty", "(I)V"⟩, 11) := ⟨⟨by decide +kernel, by decide +kernel⟩, List.mem_of_getElem? (i := 23) (by decide +kernel), List.mem_of_getElem? (i := 129) (by decide +kernel), List.mem_of_getElem? (i := 130) (by decide +kernel)⟩
theorem lw_p1 : lw_okq (⟨"OutcastBench", "costOfTrial", "(II)I"⟩, 5) := ⟨⟨by decide +kernel, by decide +kernel⟩, List.mem_of_getElem? (i := 15) (by decide +kernel), List.mem_of_getElem? (i := 177) (by decide +kernel), List.mem_of_getElem? (i := 178) (by decide +kernel)⟩
theorem lw_p2 : lw_okq (⟨"OutcastBench$CacheAndBench", "setOf", "(I)I"⟩, 11) := ⟨⟨by decide +kernel, by decide +kernel⟩, List.mem_of_getElem? (i := 23) (by decide +kernel), List.mem_of_getElem? (i := 190) (by decide +kernel), List.mem_of_getElem? (i := 191) (by decide +kernel)⟩
theorem lw_p3 : lw_okq (⟨"OutcastBench$CacheAndBench", "seatOf", "(I)I"⟩, 11) := ⟨⟨by decide +kernel, by decide +kernel⟩, List.mem_of_getElem? (i := 23) (by decide +kernel), List.mem_of_getElem? (i := 194) (by decide +kernel), List.mem_of_getElem? (i := 195) (by decide +kernel)⟩
theorem lw_p4 : lw_okq (⟨"OutcastBench$CacheAndBench", "leaveBench", "(I)V"⟩, 11) := ⟨⟨by decide +kernel, by decide +kernel⟩, List.mem_of_getElem? (i := 23) (by decide +kernel), List.mem_of_getElem? (i := 198) (by decide +kernel), List.mem_of_getElem? (i := 199) (by decide +kernel)⟩
theorem lw_p5 : lw_okq (⟨"java/lang/Throwable", "fillInStackTrace", "(I)Ljava/lang/Throwable;"⟩, 6) := ⟨⟨by decide +kernel, by decide +kernel⟩, List.mem_of_getElem? (i := 255) (by decide +kernel), List.mem_of_getElem? (i := 253) (by decide +kernel), List.mem_of_getElem? (i := 254) (by decide +kernel)⟩
theorem lw_p6 : lw_okq (⟨"OutcastBench", "ask", "(IZ)V"⟩, 5) := ⟨⟨by decide +kernel, by decide +kernel⟩, List.mem_of_getElem? (i := 15) (by decide +kernel), List.mem_of_getElem? (i := 288) (by decide +kernel), List.mem_of_getElem? (i := 289) (by decide +kernel)⟩
theorem lw_p7 : lw_okq (⟨"OutcastBench", "keepHomeWords", "(I)V"⟩, 5) := ⟨⟨by decide +kernel, by decide +kernel⟩, List.mem_of_getElem? (i := 15) (by decide +kernel), List.mem_of_getElem? (i := 303) (by decide +kernel), List.mem_of_getElem? (i := 304) (by decide +kernel)⟩
theorem lw_p8 : lw_okq (⟨"OutcastBench", "requireSet", "(I)V"⟩, 5) := ⟨⟨by decide +kernel, by decide +kernel⟩, List.mem_of_getElem? (i := 15) (by decide +kernel), List.mem_of_getElem? (i := 360) (by decide +kernel), List.mem_of_getElem? (i := 361) (by decide +kernel)⟩
theorem lw_p9 : lw_okq (⟨"OutcastBenchModel", "empties", "(I)V"⟩, 16) := ⟨⟨by decide +kernel, by decide +kernel⟩, List.mem_of_getElem? (i := 440) (by decide +kernel), List.mem_of_getElem? (i := 446) (by decide +kernel), List.mem_of_getElem? (i := 447) (by decide +kernel)⟩
theorem lw_p10 : lw_okq (⟨"OutcastBenchModel", "asks", "(IZ)V"⟩, 16) := ⟨⟨by decide +kernel, by decide +kernel⟩, List.mem_of_getElem? (i := 440) (by decide +kernel), List.mem_of_getElem? (i := 510) (by decide +kernel), List.mem_of_getElem? (i := 511) (by decide +kernel)⟩
theorem lw_p11 : lw_okq (⟨"OutcastBenchModel", "access", "(II)I"⟩, 16) := ⟨⟨by decide +kernel, by decide +kernel⟩, List.mem_of_getElem? (i := 440) (by decide +kernel), List.mem_of_getElem? (i := 514) (by decide +kernel), List.mem_of_getElem? (i := 515) (by decide +kernel)⟩
theorem lw_p12 : lw_okq (⟨"OutcastBenchModel", "seat", "(II)I"⟩, 16) := ⟨⟨by decide +kernel, by decide +kernel⟩, List.mem_of_getElem? (i := 440) (by decide +kernel), List.mem_of_getElem? (i := 518) (by decide +kernel), List.mem_of_getElem? (i := 519) (by decide +kernel)⟩
theorem lw_p13 : lw_okq (⟨"OutcastBenchModel", "leavesBench", "(II)V"⟩, 16) := ⟨⟨by decide +kernel, by decide +kernel⟩, List.mem_of_getElem? (i := 440) (by decide +kernel), List.mem_of_getElem? (i := 522) (by decide +kernel), List.mem_of_getElem? (i := 523) (by decide +kernel)⟩
theorem lw_p14 : lw_okq (⟨"OutcastBenchModel", "sits", "(II)V"⟩, 16) := ⟨⟨by decide +kernel, by decide +kernel⟩, List.mem_of_getElem? (i := 440) (by decide +kernel), List.mem_of_getElem? (i := 526) (by decide +kernel), List.mem_of_getElem? (i := 527) (by decide +kernel)⟩
theorem lw_p15 : lw_okq (⟨"OutcastBenchModel", "throwsOut", "(II)V"⟩, 16) := ⟨⟨by decide +kernel, by decide +kernel⟩, List.mem_of_getElem? (i := 440) (by decide +kernel), List.mem_of_getElem? (i := 530) (by decide +kernel), List.mem_of_getElem? (i := 531) (by decide +kernel)⟩
def lw_privs_1 : List (MethodName × Nat) := [(⟨"OutcastBench$CacheAndBench", "bringHomeIfDirty", "(I)V"⟩, 11), (⟨"OutcastBench", "costOfTrial", "(II)I"⟩, 5), (⟨"OutcastBench$CacheAndBench", "setOf", "(I)I"⟩, 11), (⟨"OutcastBench$CacheAndBench", "seatOf", "(I)I"⟩, 11), (⟨"OutcastBench$CacheAndBench", "leaveBench", "(I)V"⟩, 11), (⟨"java/lang/Throwable", "fillInStackTrace", "(I)Ljava/lang/Throwable;"⟩, 6), (⟨"OutcastBench", "ask", "(IZ)V"⟩, 5), (⟨"OutcastBench", "keepHomeWords", "(I)V"⟩, 5), (⟨"OutcastBench", "requireSet", "(I)V"⟩, 5), (⟨"OutcastBenchModel", "empties", "(I)V"⟩, 16), (⟨"OutcastBenchModel", "asks", "(IZ)V"⟩, 16), (⟨"OutcastBenchModel", "access", "(II)I"⟩, 16), (⟨"OutcastBenchModel", "seat", "(II)I"⟩, 16), (⟨"OutcastBenchModel", "leavesBench", "(II)V"⟩, 16), (⟨"OutcastBenchModel", "sits", "(II)V"⟩, 16), (⟨"OutcastBenchModel", "throwsOut", "(II)V"⟩, 16)]
theorem lw_r1 : ∀ q ∈ lw_privs_1, lw_okq q := List.forall_mem_cons.mpr ⟨lw_p0, List.forall_mem_cons.mpr ⟨lw_p1, List.forall_mem_cons.mpr ⟨lw_p2, List.forall_mem_cons.mpr ⟨lw_p3, List.forall_mem_cons.mpr ⟨lw_p4, List.forall_mem_cons.mpr ⟨lw_p5, List.forall_mem_cons.mpr ⟨lw_p6, List.forall_mem_cons.mpr ⟨lw_p7, List.forall_mem_cons.mpr ⟨lw_p8, List.forall_mem_cons.mpr ⟨lw_p9, List.forall_mem_cons.mpr ⟨lw_p10, List.forall_mem_cons.mpr ⟨lw_p11, List.forall_mem_cons.mpr ⟨lw_p12, List.forall_mem_cons.mpr ⟨lw_p13, List.forall_mem_cons.mpr ⟨lw_p14, List.forall_mem_cons.mpr ⟨lw_p15, fun _ h => absurd h List.not_mem_nil⟩⟩⟩⟩⟩⟩⟩⟩⟩⟩⟩⟩⟩⟩⟩⟩
theorem lw_p16 : lw_okq (⟨"OutcastBenchModel", "goesHome", "(II)V"⟩, 16) := ⟨⟨by decide +kernel, by decide +kernel⟩, List.mem_of_getElem? (i := 440) (by decide +kernel), List.mem_of_getElem? (i := 534) (by decide +kernel), List.mem_of_getElem? (i := 535) (by decide +kernel)⟩
theorem lw_p17 : lw_okq (⟨"OutcastBenchModel", "comesHome", "(II)V"⟩, 16) := ⟨⟨by decide +kernel, by decide +kernel⟩, List.mem_of_getElem? (i := 440) (by decide +kernel), List.mem_of_getElem? (i := 538) (by decide +kernel), List.mem_of_getElem? (i := 539) (by decide +kernel)⟩
theorem lw_p18 : lw_okq (⟨"OutcastBenchModel", "bringsHome", "()I"⟩, 16) := ⟨⟨by decide +kernel, by decide +kernel⟩, List.mem_of_getElem? (i := 440) (by decide +kernel), List.mem_of_getElem? (i := 554) (by decide +kernel), List.mem_of_getElem? (i := 555) (by decide +kernel)⟩
theorem lw_p19 : lw_okq (⟨"OutcastBenchModel", "inCache", "()I"⟩, 16) := ⟨⟨by decide +kernel, by decide +kernel⟩, List.mem_of_getElem? (i := 440) (by decide +kernel), List.mem_of_getElem? (i := 565) (by decide +kernel), List.mem_of_getElem? (i := 566) (by decide +kernel)⟩
theorem lw_p20 : lw_okq (⟨"OutcastBenchModel", "isSet", "(I)Z"⟩, 16) := ⟨⟨by decide +kernel, by decide +kernel⟩, List.mem_of_getElem? (i := 440) (by decide +kernel), List.mem_of_getElem? (i := 573) (by decide +kernel), List.mem_of_getElem? (i := 574) (by decide +kernel)⟩
theorem lw_p21 : lw_okq (⟨"OutcastBenchModel", "isLine", "(I)Z"⟩, 16) := ⟨⟨by decide +kernel, by decide +kernel⟩, List.mem_of_getElem? (i := 440) (by decide +kernel), List.mem_of_getElem? (i := 601) (by decide +kernel), List.mem_of_getElem? (i := 602) (by decide +kernel)⟩
theorem lw_p22 : lw_okq (⟨"OutcastBenchModel", "tried", "(II)I"⟩, 16) := ⟨⟨by decide +kernel, by decide +kernel⟩, List.mem_of_getElem? (i := 440) (by decide +kernel), List.mem_of_getElem? (i := 645) (by decide +kernel), List.mem_of_getElem? (i := 646) (by decide +kernel)⟩
def lw_privs_2 : List (MethodName × Nat) := [(⟨"OutcastBenchModel", "goesHome", "(II)V"⟩, 16), (⟨"OutcastBenchModel", "comesHome", "(II)V"⟩, 16), (⟨"OutcastBenchModel", "bringsHome", "()I"⟩, 16), (⟨"OutcastBenchModel", "inCache", "()I"⟩, 16), (⟨"OutcastBenchModel", "isSet", "(I)Z"⟩, 16), (⟨"OutcastBenchModel", "isLine", "(I)Z"⟩, 16), (⟨"OutcastBenchModel", "tried", "(II)I"⟩, 16)]
theorem lw_r2 : ∀ q ∈ lw_privs_2, lw_okq q := List.forall_mem_cons.mpr ⟨lw_p16, List.forall_mem_cons.mpr ⟨lw_p17, List.forall_mem_cons.mpr ⟨lw_p18, List.forall_mem_cons.mpr ⟨lw_p19, List.forall_mem_cons.mpr ⟨lw_p20, List.forall_mem_cons.mpr ⟨lw_p21, List.forall_mem_cons.mpr ⟨lw_p22, fun _ h => absurd h List.not_mem_nil⟩⟩⟩⟩⟩⟩⟩
def lw_privs : List (MethodName × Nat) := lw_privs_1 ++ (lw_privs_2)
def lw_tbl : List Cond := k2_sels lw_privs ++ tables_1
theorem lw_privs_ok : ∀ q ∈ lw_privs, lw_okq q := by
  show ∀ q ∈ lw_privs_1 ++ (lw_privs_2), lw_okq q
  exact List.forall_mem_append.mpr ⟨lw_r1, lw_r2⟩
end
section
/-! ===== BEGIN words of one list among another's, by their places ===== -/
theorem goodIn_r {big : List Cond} (ws : List Cond) (ps : List Nat) (hp : ws = ps.filterMap (fun i => big[i]?)) (h : ws.all goodWord = true) : GoodIn big ws := by
  intro w hw
  have h1 := List.all_eq_true.mp h w hw
  rw [hp] at hw
  obtain ⟨i, -, hi⟩ := List.mem_filterMap.mp hw
  have hm : w ∈ big := by first | exact List.mem_of_getElem? hi | exact List.getElem?_mem hi
  exact ⟨hm, good_of_word h1⟩
theorem goodIn_app {big a b : List Cond} (ha : GoodIn big a) (hb : GoodIn big b) : GoodIn big (a ++ b) := fun w h => (List.mem_append.mp h).elim (ha w) (hb w)
theorem goodIn_ca {big a b : List Cond} {c : Cond} (ha : GoodIn big (c :: a)) (hb : GoodIn big b) : GoodIn big (c :: (a ++ b)) := fun w h => (List.mem_cons.mp h).elim (fun e => ha w (List.mem_cons.mpr (Or.inl e))) (fun h => (List.mem_append.mp h).elim (fun h => ha w (List.mem_cons.mpr (Or.inr h))) (hb w))
theorem goodIn_sub {big ws : List Cond} (hm : ∀ w ∈ ws, w ∈ big) (h : ws.all goodWord = true) : GoodIn big ws := fun w hw => ⟨hm w hw, good_of_word (List.all_eq_true.mp h w hw)⟩
/-! ===== END ===== -/

/-! ===== BEGIN exceptions that leave a method, and their catching by the caller (launches without stack traces) ===== -/
section VXA
/-! The laws vx_back, vx_callV, vx_callS, vx_callSW, vx_throw0, vx_throwS follow proofs of the library, with one case more: JvmDerived/Free/Laws.lean (Back.of_free), Shelf42/LK1.lean (callV, callS), Shelf/KitTraced.lean (throwNew0V, throwNewS). -/
/-- where a method has thrown q: the class by its name, the cell, what was written, the world -/
def vx_T (XC : String → State → State → Prop) (st : State) (q : Addr) (t : State) (mc ms : Nat) (free : Addr → Prop) : Prop :=
  ∃ (E : String) (ce : Cell) (L : List Loc), XC E st t ∧ t.heap[q]? = some ce ∧ ce.vm = .none ∧ st.vm.findClass E = some ce.cls ∧ st.WarmedH t.vm ∧ st.sameButNew ({ t with vm := st.vm } : State) L mc ms ∧ ∀ z ∈ L, free z.base
def vx_Q (Qc : Array Value → State → Outcome → State → Prop) (XC : String → State → State → Prop) (mc ms : Nat) (free : Addr → Prop) : Array Value → State → Outcome → State → Prop := fun a st o t =>
  (Qc a st o t ∧ ∃ L, FrameEnd st o t L mc ms ∧ ∀ q ∈ L, free q.base) ∨ ∃ q, o = .threw q ∧ vx_T XC st q t mc ms free
/-- a callee that returns or throws -/
def vx_Met (l : Launch) (y : MethodName) (ws : List Cond) (rm : Room) (Pc : Array Value → State → Prop) (Qc : Array Value → State → Outcome → State → Prop) (XC : String → State → State → Prop) (mc ms : Nat) (free : Addr → Prop) : Prop :=
  MetFree l y (headSpec ws rm) Pc (fun _ _ _ _ _ => True) (vx_Q Qc XC mc ms free)
def vx_Post (XC : String → State → State → Prop) (mc ms : Nat) (free : Addr → Prop) : Pt → Array Value → Addr → Pt → Prop := fun A a q B =>
  ∃ (g : JFrame) (mk : MethodId) (t : State) (L : List Loc) (E : String) (ce : Cell), B.U.heap = t.heap ∧ B.U.vm = t.vm ∧ XC E (A.U.calling g mk a) t ∧ t.heap[q]? = some ce ∧ ce.vm = .none ∧ A.U.vm.findClass E = some ce.cls ∧ B.locs = A.locs ++ L ∧ (∀ z ∈ L, free z.base) ∧ B.cells = A.cells + mc ∧ B.slots = A.slots + ms
def vx_Back (l : Launch) (R : Room) (p : Program) (e : Env) (below : List Frame) (s : State) (sargs : Array Value) (y : MethodName) (len W9 : Nat)
    (Pre : Pt → Array Value → Prop) (Post : Pt → Array Value → Option Value → Pt → Prop) (PostX : Pt → Array Value → Addr → Pt → Prop) : Prop :=
  ∀ (m : MethodId) (meth : Method) (c : Code) (A : Pt) (g : JFrame) (ig : Instr) (mk : MethodId) (a : Array Value),
    Stand p l e R s m sargs below meth c A.U A.locs A.cells A.slots → g.method = m → g.locals.size = c.maxLocals → decode c.code g.pc = .ok (ig, len) →
    2 * g.monitorRoom + (g.stack.map fun v => v.category).sum ≤ W9 → A.U.methodNamed? y = some mk → Pre A a →
    (∃ (v : Option Value) (B : Pt), Stand p l e R s m sargs below meth c B.U B.locs B.cells B.slots ∧ Post A a v B ∧
      Steps p.tables e below (doInvoke e (A.U.setTop g) [] mk a).1 (B.U.setTop { g with pc := g.pc + len, stack := v.toList ++ g.stack })) ∨
    (∃ (q : Addr) (B : Pt), Stand p l e R s m sargs below meth c B.U B.locs B.cells B.slots ∧ PostX A a q B ∧
      Steps p.tables e below (doInvoke e (A.U.setTop g) [] mk a).1 ((B.U.setTop g).pushFrame (.throwing q)))
section Payer
variable {l : Launch} {R : Room} {p : Program} {e : Env} {below : List Frame} {s : State} {sargs : Array Value} {y : MethodName} {len W9 : Nat}
theorem vx_back {ws : List Cond} {rm : Room} {Pc : Array Value → State → Prop} {Qc : Array Value → State → Outcome → State → Prop} {XC : String → State → State → Prop} {mc ms : Nat} {free : Addr → Prop} {bytes : ByteArray} {maxL : Nat} {ret : Option FieldType}
    (hM : vx_Met l y ws rm Pc Qc XC mc ms free) (hblind : FrameBlind Pc) (hrc : rm.cells = mc) (hrs : rm.slots = ms)
    (hframes : rm.frames + 1 ≤ R.frames) (hlocals : W9 + (maxL + 11) + rm.locals ≤ R.locals)
    (hws : ∀ w ∈ ws, ∀ a' U, s.WarmedH U.vm → w.before a' U = true) (hcode : Cond.code y bytes maxL ret ∈ ws) (hinit : ∀ a' U, s.WarmedH U.vm → (Cond.initialized y.cls).before a' U = true) :
    vx_Back l R p e below s sargs y len W9 (PreOf R mc ms Pc) (PostOf Qc mc ms free) (vx_Post XC mc ms free) := by
  intro m meth c A g ig mk a X hg hsize hdg hW hn hp
  have h1 : (headSpec ws rm).pre.before a A.U = true := atoms_intro fun w hw => hws w hw _ _ X.warmed
  have h2 : (Cond.code y bytes maxL ret).before a A.U = true := hws _ hcode _ _ X.warmed
  have h3 : (Cond.initialized y.cls).before a A.U = true := hinit _ _ X.warmed
  have h4 : A.cells + (headSpec ws rm).room.cells ≤ R.cells := by rw [show (headSpec ws rm).room.cells = mc from hrc]; exact hp.1
  have h5 : A.slots + (headSpec ws rm).room.slots ≤ R.slots := by rw [show (headSpec ws rm).room.slots = ms from hrs]; exact hp.2.1
  have hPc : Pc a (A.U.calling g mk a) := hblind _ _ _ _ hp.2.2
  obtain ⟨U, Ls, c0, s0⟩ := A
  dsimp only [Pt.U, Pt.locs, Pt.cells, Pt.slots] at h1 h2 h3 h4 h5 X hn hPc ⊢
  obtain ⟨methY, cY, hmY, hcY, -, hlY, -, -, -, -⟩ := Cond.code_spec hn h2
  obtain ⟨kY, hkY, -⟩ := className_of_methodNamed hn
  have hinitY : kY.init = .initialized := Cond.initialized_spec (findClass_of_methodNamed hn) hkY h3
  have h : At U g.method c below := by rw [hg]; exact X.here
  have hlocals9 : W9 + (maxL + 11) + (headSpec ws rm).room.locals ≤ R.locals := hlocals
  have happ : (headSpec ws rm).appliesLoose y e.platform (U.calling g mk a) = true :=
    Spec.appliesLoose_calling (g := g) h hdg hn hkY hinitY
      (X.room_calling (g := g) (R' := (headSpec ws rm).room) hsize hmY hcY hframes (by rw [hlY]; omega) h4 h5) h1
  obtain ⟨mid, hmid⟩ := h.above
  have hfr : (U.setTop g).frames = (.java g :: mid) ++ below := by rw [State.frames_setTop' g h.top, hmid]; rfl
  obtain ⟨o, s₂, hsteps, -, hend, hq⟩ := Steps.callFree hM p X.admits X.cas X.clock (acts := []) hfr happ hPc trivial
  have hq' : vx_Q Qc XC mc ms free a (U.calling g mk a) o s₂ := hq
  rw [State.frames_setTop' g h.top] at hend
  obtain ⟨g₀, hg0⟩ := Option.isSome_iff_exists.mp h.top
  obtain ⟨r, hr⟩ := State.topJava?_eq_some.mp hg0
  have hr' : (({ U with heap := s₂.heap, slotsUsed := s₂.slotsUsed } : State).setVm s₂.vm).frames = .java g₀ :: r := hr
  rcases hq' with ⟨hqc, L, hfe, hL⟩ | ⟨q, rfl, E, ce, L, hx, hce, hcv, hcl, hW₂, hsm, hL⟩
  · obtain ⟨⟨v, rfl⟩, hW₂, e2, q2, q3, q4, q5, q6⟩ := id hfe
    have e3 : s₂ = ({ (U.calling g mk a).setFrames s₂.frames with heap := s₂.heap, slotsUsed := s₂.slotsUsed } : State).setVm s₂.vm := by
      have : s₂ = ({ s₂ with vm := (U.calling g mk a).vm } : State).setVm s₂.vm := rfl
      rw [e2] at this
      exact this
    obtain ⟨c₂, i₂, len₂, hc₂, hd₂, hf₂⟩ := hend
    have hW' : U.WarmedH s₂.vm := hW₂
    have hcc : c₂ = c := by
      have h1 : s₂.code? g.method = U.code? g.method := by
        rw [State.code?_eq, State.code?_eq, hW'.alike.method?]
      exact Option.some.inj (hc₂.symm.trans (h1.trans h.code))
    subst hcc
    have hlen : len₂ = len := by rw [hdg] at hd₂; cases hd₂; rfl
    subst hlen
    have hs₂ : s₂ = (({ U with heap := s₂.heap, slotsUsed := s₂.slotsUsed } : State).setVm s₂.vm).setTop { g with pc := g.pc + len₂, stack := v.toList ++ g.stack } := by
      refine e3.trans ?_
      rw [hf₂, State.calling_eq h.top, State.setFrames_setFrames, State.setTop_of_frames _ hr', hr]
      rfl
    have hsame : U.sameButNew ({ U with heap := s₂.heap, slotsUsed := s₂.slotsUsed } : State) L mc ms := by
      refine ⟨?_, q2, q3, q4, q5, q6⟩
      obtain ⟨t, ht, -⟩ := State.frames_cons hr
      show ({ U with heap := s₂.heap, slotsUsed := s₂.slotsUsed } : State) = { U.setFrames U.frames with heap := s₂.heap, slotsUsed := s₂.slotsUsed }
      rw [State.setFrames_self ht]
    subst hg
    refine Or.inl ⟨v, ⟨(({ U with heap := s₂.heap, slotsUsed := s₂.slotsUsed } : State).setVm s₂.vm), Ls ++ L, c0 + mc, s0 + ms⟩,
      ⟨X.admits, X.cas, X.clock, X.frames, X.room, X.hears, X.method, X.code, (X.here.setHeapUsed s₂.heap s₂.slotsUsed).setVm hW'.alike, X.tail, State.WarmedH.trans X.warmed hW', X.limits, X.bytes, X.same.trans (hsame.setVm s.vm)⟩,
      ⟨g, mk, s₂, L, rfl, rfl, hqc, rfl, hL, rfl, rfl⟩, ?_⟩
    show Steps p.tables e below _ ((({ U with heap := s₂.heap, slotsUsed := s₂.slotsUsed } : State).setVm s₂.vm).setTop { g with pc := g.pc + len₂, stack := v.toList ++ g.stack })
    rw [← hs₂]
    exact hsteps
  · obtain ⟨e2, q2, q3, q4, q5, q6⟩ := id hsm
    have e3 : s₂ = ({ (U.calling g mk a).setFrames s₂.frames with heap := s₂.heap, slotsUsed := s₂.slotsUsed } : State).setVm s₂.vm := by
      have : s₂ = ({ s₂ with vm := (U.calling g mk a).vm } : State).setVm s₂.vm := rfl
      rw [e2] at this
      exact this
    have hf₂ : s₂.frames = .throwing q :: .java g :: U.frames.tail := hend
    have hW' : U.WarmedH s₂.vm := hW₂
    have hs₂ : s₂ = ((({ U with heap := s₂.heap, slotsUsed := s₂.slotsUsed } : State).setVm s₂.vm).setTop g).pushFrame (.throwing q) := by
      refine e3.trans ?_
      rw [hf₂, State.calling_eq h.top, State.setFrames_setFrames, State.pushFrame, State.frames_setTop _ hr', State.setTop_of_frames _ hr', State.setFrames_setFrames, hr]
      rfl
    have hsame : U.sameButNew ({ U with heap := s₂.heap, slotsUsed := s₂.slotsUsed } : State) L mc ms := by
      refine ⟨?_, q2, q3, q4, q5, q6⟩
      obtain ⟨t, ht, -⟩ := State.frames_cons hr
      show ({ U with heap := s₂.heap, slotsUsed := s₂.slotsUsed } : State) = { U.setFrames U.frames with heap := s₂.heap, slotsUsed := s₂.slotsUsed }
      rw [State.setFrames_self ht]
    subst hg
    refine Or.inr ⟨q, ⟨(({ U with heap := s₂.heap, slotsUsed := s₂.slotsUsed } : State).setVm s₂.vm), Ls ++ L, c0 + mc, s0 + ms⟩,
      ⟨X.admits, X.cas, X.clock, X.frames, X.room, X.hears, X.method, X.code, (X.here.setHeapUsed s₂.heap s₂.slotsUsed).setVm hW'.alike, X.tail, State.WarmedH.trans X.warmed hW', X.limits, X.bytes, X.same.trans (hsame.setVm s.vm)⟩,
      ⟨g, mk, s₂, L, E, ce, rfl, rfl, hx, hce, hcv, hcl, rfl, hL, rfl, rfl⟩, ?_⟩
    show Steps p.tables e below _ (((({ U with heap := s₂.heap, slotsUsed := s₂.slotsUsed } : State).setVm s₂.vm).setTop g).pushFrame (.throwing q))
    rw [← hs₂]
    exact hsteps
end Payer
section Calls
variable {p : Program} {l : Launch} {e : Env} {R : Room} {s : State} {m : MethodId} {args : Array Value} {below : List Frame} {meth : Method} {c : Code} {T : State} {locs : List Loc} {cells slots : Nat}
theorem vx_callV (X : Stand p l e R s m args below meth c T locs cells slots) (hexec : p.tables.exec = Jvm.exec) {own C : String} {index : Nat} {y : MethodName} {bytes : ByteArray} {maxL : Nat} {ret : Option FieldType}
    (hown : s.vm.findClass own = some m.cls) (hlink : (Cond.methodLink own index y).before args s = true) (hinst : (Cond.instanceMethod y).before args s = true) (hsel : (Cond.selects C y y).before args s = true)
    (hcode : (Cond.code y bytes maxL ret).before args s = true) (hy : y.cls ≠ "java/lang/invoke/MethodHandle" ∧ y.cls ≠ "java/lang/invoke/VarHandle")
    {W9 : Nat} {Pre : Pt → Array Value → Prop} {Post : Pt → Array Value → Option Value → Pt → Prop} {PostX : Pt → Array Value → Addr → Pt → Prop} (hK : vx_Back l R p e below s args y 3 W9 Pre Post PostX)
    {b : Addr} {cellB : Cell} (hcell : T.heap[b]? = some cellB) (hobj : cellB.vm.isStatics = false) (hcls : s.vm.findClass C = some cellB.cls)
    {g : JFrame} (hg : g.method = m) (hsize : g.locals.size = c.maxLocals) {argsL rest : List Value} (hlen : ∀ sig, parseMethodDescriptor y.desc = some sig → argsL.length = sig.parameters.length)
    (hstack : g.stack = argsL.reverse ++ .ref b :: rest) (hW : 2 * g.monitorRoom + (rest.map fun v => v.category).sum ≤ W9) (hdg : decode c.code g.pc = .ok (.invokevirtual index, 3))
    (hpre : ∀ vm₁, s.WarmedH vm₁ → Pre ⟨T.setVm vm₁, locs, cells, slots⟩ (Value.ref b :: argsL).toArray) :
    (∃ (v : Option Value) (vm₁ : Vm) (B : Pt), s.WarmedH vm₁ ∧ Stand p l e R s m args below meth c B.U B.locs B.cells B.slots ∧ Post ⟨T.setVm vm₁, locs, cells, slots⟩ (Value.ref b :: argsL).toArray v B ∧
      ∀ target, Steps p.tables e below (B.U.setTop { g with pc := g.pc + 3, stack := v.toList ++ rest }) target → Steps p.tables e below (T.setTop g) target) ∨
    (∃ (q : Addr) (vm₁ : Vm) (B : Pt), s.WarmedH vm₁ ∧ Stand p l e R s m args below meth c B.U B.locs B.cells B.slots ∧ PostX ⟨T.setVm vm₁, locs, cells, slots⟩ (Value.ref b :: argsL).toArray q B ∧
      Steps p.tables e below (T.setTop g) ((B.U.setTop { g with stack := rest }).pushFrame (.throwing q))) := by
  obtain ⟨mk, methM, hnamed, hmethM, hstM, habM⟩ := Cond.instanceMethod_spec hinst
  obtain ⟨methM', cM, hmethM', -, -, -, -, -, -, hsigM⟩ := Cond.code_spec hnamed hcode
  cases hmethM.symm.trans hmethM'
  obtain ⟨c2, r2, m2, q1, q2, q3, q4, kP, hkP, hkPi⟩ := Cond.selects_spec hsel
  cases hcls.symm.trans q1
  cases (State.methodFound?_of_named hnamed hy).symm.trans q2
  cases hnamed.symm.trans q3
  have hselP : selectMethod e.platform s.vm cellB.cls mk = .method mk := by rw [Launch.admits_selectMethod X.admits]; exact q4
  obtain ⟨vm₁, X₁, hstep₁⟩ := X.invokevirtual hexec hown hlink hnamed hmethM hstM hkP hkPi hy (a := b) (cell := cellB) hcell
    (fun z h => by rw [h] at hobj; cases hobj) hselP hmethM habM hkP hkPi (g := g) hg (argsL := argsL) (rest := rest) (hlen _ hsigM) hstack hdg
  rcases hK m meth c ⟨T.setVm vm₁, locs, cells, slots⟩ { g with stack := rest } (.invokevirtual index) mk (Value.ref b :: argsL).toArray X₁ hg hsize hdg hW (X₁.named hnamed) (hpre vm₁ X₁.warmed) with ⟨v, B, X', hpost, hsteps⟩ | ⟨q, B, X', hpost, hsteps⟩
  · exact Or.inl ⟨v, vm₁, B, X₁.warmed, X', hpost, fun target h => hstep₁ _ fun acts => by rw [doInvoke_state]; exact hsteps.trans h⟩
  · exact Or.inr ⟨q, vm₁, B, X₁.warmed, X', hpost, hstep₁ _ fun acts => by rw [doInvoke_state]; exact hsteps⟩
theorem vx_callS (X : Stand p l e R s m args below meth c T locs cells slots) (hexec : p.tables.exec = Jvm.exec) {own : String} {index : Nat} {y : MethodName} {bytes : ByteArray} {maxL : Nat} {ret : Option FieldType}
    (hown : s.vm.findClass own = some m.cls) (hlink : (Cond.methodLink own index y).before args s = true) (hstat : (Cond.static y).before args s = true) (hinit : (Cond.initialized y.cls).before args s = true)
    (hcode : (Cond.code y bytes maxL ret).before args s = true) (hy : y.cls ≠ "java/lang/invoke/MethodHandle" ∧ y.cls ≠ "java/lang/invoke/VarHandle")
    {W9 : Nat} {Pre : Pt → Array Value → Prop} {Post : Pt → Array Value → Option Value → Pt → Prop} {PostX : Pt → Array Value → Addr → Pt → Prop} (hK : vx_Back l R p e below s args y 3 W9 Pre Post PostX)
    {g : JFrame} (hg : g.method = m) (hsize : g.locals.size = c.maxLocals) {argsL rest : List Value} (hlen : ∀ sig, parseMethodDescriptor y.desc = some sig → argsL.length = sig.parameters.length)
    (hstack : g.stack = argsL.reverse ++ rest) (hW : 2 * g.monitorRoom + (rest.map fun v => v.category).sum ≤ W9) (hdg : decode c.code g.pc = .ok (.invokestatic index, 3))
    (hpre : ∀ vm₁, s.WarmedH vm₁ → Pre ⟨T.setVm vm₁, locs, cells, slots⟩ argsL.toArray) :
    (∃ (v : Option Value) (vm₁ : Vm) (B : Pt), s.WarmedH vm₁ ∧ Stand p l e R s m args below meth c B.U B.locs B.cells B.slots ∧ Post ⟨T.setVm vm₁, locs, cells, slots⟩ argsL.toArray v B ∧
      ∀ target, Steps p.tables e below (B.U.setTop { g with pc := g.pc + 3, stack := v.toList ++ rest }) target → Steps p.tables e below (T.setTop g) target) ∨
    (∃ (q : Addr) (vm₁ : Vm) (B : Pt), s.WarmedH vm₁ ∧ Stand p l e R s m args below meth c B.U B.locs B.cells B.slots ∧ PostX ⟨T.setVm vm₁, locs, cells, slots⟩ argsL.toArray q B ∧
      Steps p.tables e below (T.setTop g) ((B.U.setTop { g with stack := rest }).pushFrame (.throwing q))) := by
  obtain ⟨mk, hnamed⟩ := Cond.code_named hcode
  obtain ⟨methM, cM, hmethM, -, -, -, -, -, -, hsigM⟩ := Cond.code_spec hnamed hcode
  have hstatic : methM.isStatic = true := Cond.static_spec hnamed hmethM hstat
  obtain ⟨kP, hkP, -⟩ := className_of_methodNamed hnamed
  have hinitP : kP.init = .initialized := Cond.initialized_spec (findClass_of_methodNamed hnamed) hkP hinit
  obtain ⟨vm₁, X₁, hstep₁⟩ := X.invokestatic hexec hown hlink hnamed hmethM hstatic hkP hinitP hy (g := g) hg (argsL := argsL) (rest := rest) (hlen _ hsigM) hstack hdg
  rcases hK m meth c ⟨T.setVm vm₁, locs, cells, slots⟩ { g with stack := rest } (.invokestatic index) mk argsL.toArray X₁ hg hsize hdg hW (X₁.named hnamed) (hpre vm₁ X₁.warmed) with ⟨v, B, X', hpost, hsteps⟩ | ⟨q, B, X', hpost, hsteps⟩
  · exact Or.inl ⟨v, vm₁, B, X₁.warmed, X', hpost, fun target h => hstep₁ _ fun acts => by rw [doInvoke_state]; exact hsteps.trans h⟩
  · exact Or.inr ⟨q, vm₁, B, X₁.warmed, X', hpost, hstep₁ _ fun acts => by rw [doInvoke_state]; exact hsteps⟩
end Calls
theorem vx_cls {s : State} {T : State} {vm₁ : Vm} {E : String} {k : ClassId} (hW : s.WarmedH vm₁) (h : (T.setVm vm₁).vm.findClass E = some k) : s.vm.findClass E = some k := by
  have h1 : vm₁.findClass E = some k := h
  rw [hW.alike.findClass] at h1
  exact h1
/-- the method's frame g, with q thrown over it -/
def vx_W (p : Program) (l : Launch) (e : Env) (R : Room) (s : State) (m : MethodId) (args : Array Value) (below : List Frame) (meth : Method) (c : Code) (H : Heap) (locs : List Loc) (cells slots : Nat) (Q : State → Prop) (g : JFrame) (q : Addr) : Prop :=
  ∀ T : State, T.heap = H → Stand p l e R s m args below meth c T locs cells slots → ∃ t, Steps p.tables e below ((T.setTop g).pushFrame (.throwing q)) t ∧ Q t
def vx_Run (p : Program) (l : Launch) (e : Env) (R : Room) (s : State) (m : MethodId) (args : Array Value) (below : List Frame) (meth : Method) (c : Code) (H : Heap) (locs : List Loc) (cells slots mc ms : Nat) (g : JFrame) (rest : List Value) (Qa : State → Outcome → State → Prop) (XC : String → State → State → Prop) (free : Addr → Prop) : Prop :=
  ∀ T : State, T.heap = H → Stand p l e R s m args below meth c T locs cells slots →
    (∃ (v : Option Value) (st₀ t T' : State) (L : List Loc), st₀.heap = H ∧ Stand p l e R s m args below meth c T' (locs ++ L) (cells + mc) (slots + ms) ∧ (∀ q ∈ L, free q.base) ∧ T'.heap = t.heap ∧ T'.vm = t.vm ∧ Qa st₀ (.returned v) t ∧
      Goes p e below T g T' { g with pc := g.pc + 3, stack := v.toList ++ rest }) ∨
    (∃ (q : Addr) (st₀ t T' : State) (L : List Loc) (E : String) (ce : Cell), st₀.heap = H ∧ Stand p l e R s m args below meth c T' (locs ++ L) (cells + mc) (slots + ms) ∧ (∀ z ∈ L, free z.base) ∧ T'.heap = t.heap ∧ T'.vm = t.vm ∧ XC E st₀ t ∧ t.heap[q]? = some ce ∧ ce.vm = .none ∧ s.vm.findClass E = some ce.cls ∧
      Steps p.tables e below (T.setTop g) ((T'.setTop { g with stack := rest }).pushFrame (.throwing q)))
def vx_X {S : Type} (px : S → Prop) (B : String → S → State → Prop) (A : Nat → Prop) : String → State → State → Prop := fun E st t => ∃ u : S, px u ∧ B E u t ∧ va_F A st t
section Runs
variable {p : Program} {l : Launch} {e : Env} {R : Room} {s : State} {m : MethodId} {args : Array Value} {below : List Frame} {meth : Method} {c : Code} {H : Heap} {locs : List Loc} {cells slots : Nat}
variable {y : MethodName} {bytes cc : ByteArray} {maxL nL mc ms n index : Nat} {ret : Option FieldType} {ws : List Cond} {rm : Room} {Pc : Array Value → State → Prop} {Qc : Array Value → State → Outcome → State → Prop} {XC : String → State → State → Prop} {free : Addr → Prop} {Ts : List Cond} {own C : String} {b : Addr} {As rest : List Value} {g : JFrame}
theorem vx_callBack (cb : CallB R s args own index y bytes maxL ret ws rm mc ms n) (hM : vx_Met l y ws rm Pc Qc XC mc ms free) (hbl : FrameBlind Pc) : vx_Back l R p e below s args y 3 8 (PreOf R mc ms Pc) (PostOf Qc mc ms free) (vx_Post XC mc ms free) := by
  obtain ⟨hrc, hrs, hfr, hlo, hws, hcw, -, hini, -⟩ := cb
  exact vx_back (bytes := bytes) (maxL := maxL) (ret := ret) hM hbl hrc hrs hfr hlo hws hcw (fun a' U hW => word_at hW (Or.inl (by first | rfl | simp [Cond.onTables, Cond.keeps, Cond.steady])) hini)
theorem vx_runV (S : CallFix p m c cc nL s args Ts own) (hM : vx_Met l y ws rm Pc Qc XC mc ms free) (cw : CallW R s args own C index y bytes maxL ret ws rm mc ms n) (hp : PreV s H C b Pc As)
    (hg : g.method = m) (hn : As.length = n) (hsize : g.locals.size = nL) (hstack : g.stack = As.reverse ++ .ref b :: rest) (hW : 2 * g.monitorRoom + (rest.map fun v => v.category).sum ≤ 8) (hdg : decode cc g.pc = .ok (.invokevirtual index, 3)) (hf : cells + mc ≤ R.cells ∧ slots + ms ≤ R.slots) :
    vx_Run p l e R s m args below meth c H locs cells slots mc ms g rest (Qc (Value.ref b :: As).toArray) XC free := by
  have hK : vx_Back l R p e below s args y 3 8 (PreOf R mc ms Pc) (PostOf Qc mc ms free) (vx_Post XC mc ms free) := vx_callBack cw.1 hM hp.1
  obtain ⟨⟨-, -, -, -, -, -, hcode, -, hy, hlen, hl⟩, hin, hse⟩ := cw
  obtain ⟨hx, hb, hml, ho, -⟩ := S
  obtain ⟨-, ⟨cellB, hcB, hoB, hclB⟩, hPc⟩ := hp
  intro T hT X
  rcases vx_callV X hx (C := C) (bytes := bytes) (maxL := maxL) (ret := ret) ho hl hin hse hcode hy hK (by rw [hT]; exact hcB) hoB hclB hg (hsize.trans hml.symm) (argsL := As) (rest := rest) (fun sig h => hn.trans (hlen sig h)) hstack hW (by rw [hb]; exact hdg)
    (fun vm₁ hW₁ => ⟨hf.1, hf.2, hPc (T.setVm vm₁) hT hW₁⟩) with ⟨v, vm₁, ⟨U', l2, c2, s2⟩, hW₁, X', ⟨g', mk, t, L, e1, e2, hq, h1, hL, h2, h3⟩, st⟩ | ⟨q, vm₁, ⟨U', l2, c2, s2⟩, hW₁, X', ⟨g', mk, t, L, E, ce, e1, e2, hq, hce, hcv, hcl, h1, hL, h2, h3⟩, st⟩
  · dsimp only [Pt.U, Pt.locs, Pt.cells, Pt.slots] at X' e1 e2 h1 h2 h3 st
    subst h1; subst h2; subst h3
    exact Or.inl ⟨v, (T.setVm vm₁).calling g' mk (Value.ref b :: As).toArray, t, U', L, hT, X', hL, e1, e2, hq, st⟩
  · dsimp only [Pt.U, Pt.locs, Pt.cells, Pt.slots] at X' e1 e2 h1 h2 h3 st hcl
    subst h1; subst h2; subst h3
    exact Or.inr ⟨q, (T.setVm vm₁).calling g' mk (Value.ref b :: As).toArray, t, U', L, E, ce, hT, X', hL, e1, e2, hq, hce, hcv, vx_cls hW₁ hcl, st⟩
theorem vx_runS (S : CallFix p m c cc nL s args Ts own) (hM : vx_Met l y ws rm Pc Qc XC mc ms free) (cw : CallB R s args own index y bytes maxL ret ws rm mc ms n ∧ (Cond.static y).before args s = true) (hp : PreS s H Pc As)
    (hg : g.method = m) (hn : As.length = n) (hsize : g.locals.size = nL) (hstack : g.stack = As.reverse ++ rest) (hW : 2 * g.monitorRoom + (rest.map fun v => v.category).sum ≤ 8) (hdg : decode cc g.pc = .ok (.invokestatic index, 3)) (hf : cells + mc ≤ R.cells ∧ slots + ms ≤ R.slots) :
    vx_Run p l e R s m args below meth c H locs cells slots mc ms g rest (Qc As.toArray) XC free := by
  have hK : vx_Back l R p e below s args y 3 8 (PreOf R mc ms Pc) (PostOf Qc mc ms free) (vx_Post XC mc ms free) := vx_callBack cw.1 hM hp.1
  obtain ⟨⟨-, -, -, -, -, -, hcode, hini, hy, hlen, hl⟩, hstt⟩ := cw
  obtain ⟨hx, hb, hml, ho, -⟩ := S
  intro T hT X
  rcases vx_callS X hx (bytes := bytes) (maxL := maxL) (ret := ret) ho hl hstt hini hcode hy hK hg (hsize.trans hml.symm) (argsL := As) (rest := rest) (fun sig h => hn.trans (hlen sig h)) hstack hW (by rw [hb]; exact hdg)
    (fun vm₁ hW₁ => ⟨hf.1, hf.2, hp.2 (T.setVm vm₁) hT hW₁⟩) with ⟨v, vm₁, ⟨U', l2, c2, s2⟩, hW₁, X', ⟨g', mk, t, L, e1, e2, hq, h1, hL, h2, h3⟩, st⟩ | ⟨q, vm₁, ⟨U', l2, c2, s2⟩, hW₁, X', ⟨g', mk, t, L, E, ce, e1, e2, hq, hce, hcv, hcl, h1, hL, h2, h3⟩, st⟩
  · dsimp only [Pt.U, Pt.locs, Pt.cells, Pt.slots] at X' e1 e2 h1 h2 h3 st
    subst h1; subst h2; subst h3
    exact Or.inl ⟨v, (T.setVm vm₁).calling g' mk As.toArray, t, U', L, hT, X', hL, e1, e2, hq, st⟩
  · dsimp only [Pt.U, Pt.locs, Pt.cells, Pt.slots] at X' e1 e2 h1 h2 h3 st hcl
    subst h1; subst h2; subst h3
    exact Or.inr ⟨q, (T.setVm vm₁).calling g' mk As.toArray, t, U', L, E, ce, hT, X', hL, e1, e2, hq, hce, hcv, vx_cls hW₁ hcl, st⟩
end Runs
section Rows
variable {p : Program} {l : Launch} {e : Env} {R : Room} {s : State} {m : MethodId} {args : Array Value} {below : List Frame} {meth : Method} {c : Code} {H : Heap} {locs : List Loc} {cells slots : Nat} {Q : State → Prop}
variable {mc ms : Nat} {free : Addr → Prop} {A0 A1 : Nat → Prop} {H0 : Heap} {a : Array Value} {pc : Nat} {ls : Array Slot} {st0 rest : List Value}
theorem vx_keep {st₀ t T' : State} {L : List Loc} (h0 : st₀.heap = H) (e1 : T'.heap = t.heap) (hS : va_S A0 H0 H locs) (hA : ∀ q, q < H.size → A1 q → A0 q) (hf : ∀ q, free q → A0 q) (hL : ∀ q ∈ L, free q.base) (hF : va_F A1 st₀ t) :
    H.size ≤ T'.heap.size ∧ (∀ q : Nat, q < H.size → ¬ A1 q → T'.heap[q]? = H[q]?) ∧ va_S A0 H0 T'.heap (locs ++ L) := by
  obtain ⟨hz, hk⟩ := hF
  rw [h0] at hz hk
  exact ⟨by rw [e1]; exact hz, fun q h1 h2 => by rw [e1]; exact hk q h1 h2,
    ⟨Nat.le_trans hS.1 (by rw [e1]; exact hz), fun q h1 h2 => by rw [e1, hk q (Nat.lt_of_lt_of_le h1 hS.1) (fun z => h2 (hA q (Nat.lt_of_lt_of_le h1 hS.1) z))]; exact hS.2.1 q h1 h2, fun q hq => by
      rcases List.mem_append.mp hq with h | h
      · exact hS.2.2 q h
      · exact hf _ (hL q h)⟩⟩
theorem vx_calli {S SX : Type} {post : Int32 → S → Prop} {px : SX → Prop} {B : S → State → Prop} {BX : String → SX → State → Prop} {AX : Nat → Prop} (hr : vx_Run p l e R s m args below meth c H locs cells slots mc ms (F0 m pc ls st0) rest (va_Qi post B A1 a) (vx_X px BX AX) free) (hS : va_S A0 H0 H locs) (hA : ∀ q, q < H.size → A1 q → A0 q) (hf : ∀ q, free q → A0 q) (hAX : ∀ q, q < H.size → AX q → A0 q)
    (kx : ∀ (E : String) (ce : Cell) (q9 : Addr) (u : SX) (t : State) (H1 : Heap) (locs1 : List Loc), t.heap = H1 → s.vm.Alike t.vm → px u → BX E u t → H.size ≤ H1.size → (∀ q : Nat, q < H.size → ¬ AX q → H1[q]? = H[q]?) → va_S A0 H0 H1 locs1 → H1[q9]? = some ce → ce.vm = .none → s.vm.findClass E = some ce.cls → vx_W p l e R s m args below meth c H1 locs1 (cells + mc) (slots + ms) Q (F0 m pc ls rest) q9)
    (kk : ∀ (r : Int32) (u : S) (t : State) (H1 : Heap) (locs1 : List Loc), t.heap = H1 → s.vm.Alike t.vm → post r u → B u t → H.size ≤ H1.size → (∀ q : Nat, q < H.size → ¬ A1 q → H1[q]? = H[q]?) → va_S A0 H0 H1 locs1 → W p l e R s m args below meth c H1 locs1 (cells + mc) (slots + ms) Q (F0 m (pc + 3) ls (.int r :: rest))) : W p l e R s m args below meth c H locs cells slots Q (F0 m pc ls st0) := by
  intro T hT X
  rcases hr T hT X with ⟨v, st₀, t, T', L, h0, X', hL, e1, e2, ⟨⟨r, u, hv, hp, hb⟩, hF⟩, st⟩ | ⟨q, st₀, t, T', L, E, ce, h0, X', hL, e1, e2, ⟨u, hp, hb, hF⟩, hce, hcv, hcl, st⟩
  · cases hv
    obtain ⟨k1, k2, k3⟩ := vx_keep h0 e1 hS hA hf hL hF
    obtain ⟨t2, a1, b1⟩ := kk r u t T'.heap (locs ++ L) e1.symm (by rw [← e2]; exact X'.warmed.alike) hp hb k1 k2 k3 T' rfl X'
    exact ⟨t2, st t2 a1, b1⟩
  · obtain ⟨k1, k2, k3⟩ := vx_keep h0 e1 hS hAX hf hL hF
    obtain ⟨t2, a1, b1⟩ := kx E ce q u t T'.heap (locs ++ L) e1.symm (by rw [← e2]; exact X'.warmed.alike) hp hb k1 k2 k3 (by rw [e1]; exact hce) hcv hcl T' rfl X'
    exact ⟨t2, st.trans a1, b1⟩
theorem vx_calll {S SX : Type} {post : Int64 → S → Prop} {px : SX → Prop} {B : S → State → Prop} {BX : String → SX → State → Prop} {AX : Nat → Prop} (hr : vx_Run p l e R s m args below meth c H locs cells slots mc ms (F0 m pc ls st0) rest (va_Ql post B A1 a) (vx_X px BX AX) free) (hS : va_S A0 H0 H locs) (hA : ∀ q, q < H.size → A1 q → A0 q) (hf : ∀ q, free q → A0 q) (hAX : ∀ q, q < H.size → AX q → A0 q)
    (kx : ∀ (E : String) (ce : Cell) (q9 : Addr) (u : SX) (t : State) (H1 : Heap) (locs1 : List Loc), t.heap = H1 → s.vm.Alike t.vm → px u → BX E u t → H.size ≤ H1.size → (∀ q : Nat, q < H.size → ¬ AX q → H1[q]? = H[q]?) → va_S A0 H0 H1 locs1 → H1[q9]? = some ce → ce.vm = .none → s.vm.findClass E = some ce.cls → vx_W p l e R s m args below meth c H1 locs1 (cells + mc) (slots + ms) Q (F0 m pc ls rest) q9)
    (kk : ∀ (r : Int64) (u : S) (t : State) (H1 : Heap) (locs1 : List Loc), t.heap = H1 → s.vm.Alike t.vm → post r u → B u t → H.size ≤ H1.size → (∀ q : Nat, q < H.size → ¬ A1 q → H1[q]? = H[q]?) → va_S A0 H0 H1 locs1 → W p l e R s m args below meth c H1 locs1 (cells + mc) (slots + ms) Q (F0 m (pc + 3) ls (.long r :: rest))) : W p l e R s m args below meth c H locs cells slots Q (F0 m pc ls st0) := by
  intro T hT X
  rcases hr T hT X with ⟨v, st₀, t, T', L, h0, X', hL, e1, e2, ⟨⟨r, u, hv, hp, hb⟩, hF⟩, st⟩ | ⟨q, st₀, t, T', L, E, ce, h0, X', hL, e1, e2, ⟨u, hp, hb, hF⟩, hce, hcv, hcl, st⟩
  · cases hv
    obtain ⟨k1, k2, k3⟩ := vx_keep h0 e1 hS hA hf hL hF
    obtain ⟨t2, a1, b1⟩ := kk r u t T'.heap (locs ++ L) e1.symm (by rw [← e2]; exact X'.warmed.alike) hp hb k1 k2 k3 T' rfl X'
    exact ⟨t2, st t2 a1, b1⟩
  · obtain ⟨k1, k2, k3⟩ := vx_keep h0 e1 hS hAX hf hL hF
    obtain ⟨t2, a1, b1⟩ := kx E ce q u t T'.heap (locs ++ L) e1.symm (by rw [← e2]; exact X'.warmed.alike) hp hb k1 k2 k3 (by rw [e1]; exact hce) hcv hcl T' rfl X'
    exact ⟨t2, st.trans a1, b1⟩
theorem vx_callf {S SX : Type} {post : UInt32 → S → Prop} {px : SX → Prop} {B : S → State → Prop} {BX : String → SX → State → Prop} {AX : Nat → Prop} (hr : vx_Run p l e R s m args below meth c H locs cells slots mc ms (F0 m pc ls st0) rest (va_Qf post B A1 a) (vx_X px BX AX) free) (hS : va_S A0 H0 H locs) (hA : ∀ q, q < H.size → A1 q → A0 q) (hf : ∀ q, free q → A0 q) (hAX : ∀ q, q < H.size → AX q → A0 q)
    (kx : ∀ (E : String) (ce : Cell) (q9 : Addr) (u : SX) (t : State) (H1 : Heap) (locs1 : List Loc), t.heap = H1 → s.vm.Alike t.vm → px u → BX E u t → H.size ≤ H1.size → (∀ q : Nat, q < H.size → ¬ AX q → H1[q]? = H[q]?) → va_S A0 H0 H1 locs1 → H1[q9]? = some ce → ce.vm = .none → s.vm.findClass E = some ce.cls → vx_W p l e R s m args below meth c H1 locs1 (cells + mc) (slots + ms) Q (F0 m pc ls rest) q9)
    (kk : ∀ (r : UInt32) (u : S) (t : State) (H1 : Heap) (locs1 : List Loc), t.heap = H1 → s.vm.Alike t.vm → post r u → B u t → H.size ≤ H1.size → (∀ q : Nat, q < H.size → ¬ A1 q → H1[q]? = H[q]?) → va_S A0 H0 H1 locs1 → W p l e R s m args below meth c H1 locs1 (cells + mc) (slots + ms) Q (F0 m (pc + 3) ls (.float r :: rest))) : W p l e R s m args below meth c H locs cells slots Q (F0 m pc ls st0) := by
  intro T hT X
  rcases hr T hT X with ⟨v, st₀, t, T', L, h0, X', hL, e1, e2, ⟨⟨r, u, hv, hp, hb⟩, hF⟩, st⟩ | ⟨q, st₀, t, T', L, E, ce, h0, X', hL, e1, e2, ⟨u, hp, hb, hF⟩, hce, hcv, hcl, st⟩
  · cases hv
    obtain ⟨k1, k2, k3⟩ := vx_keep h0 e1 hS hA hf hL hF
    obtain ⟨t2, a1, b1⟩ := kk r u t T'.heap (locs ++ L) e1.symm (by rw [← e2]; exact X'.warmed.alike) hp hb k1 k2 k3 T' rfl X'
    exact ⟨t2, st t2 a1, b1⟩
  · obtain ⟨k1, k2, k3⟩ := vx_keep h0 e1 hS hAX hf hL hF
    obtain ⟨t2, a1, b1⟩ := kx E ce q u t T'.heap (locs ++ L) e1.symm (by rw [← e2]; exact X'.warmed.alike) hp hb k1 k2 k3 (by rw [e1]; exact hce) hcv hcl T' rfl X'
    exact ⟨t2, st.trans a1, b1⟩
theorem vx_calld {S SX : Type} {post : UInt64 → S → Prop} {px : SX → Prop} {B : S → State → Prop} {BX : String → SX → State → Prop} {AX : Nat → Prop} (hr : vx_Run p l e R s m args below meth c H locs cells slots mc ms (F0 m pc ls st0) rest (va_Qd post B A1 a) (vx_X px BX AX) free) (hS : va_S A0 H0 H locs) (hA : ∀ q, q < H.size → A1 q → A0 q) (hf : ∀ q, free q → A0 q) (hAX : ∀ q, q < H.size → AX q → A0 q)
    (kx : ∀ (E : String) (ce : Cell) (q9 : Addr) (u : SX) (t : State) (H1 : Heap) (locs1 : List Loc), t.heap = H1 → s.vm.Alike t.vm → px u → BX E u t → H.size ≤ H1.size → (∀ q : Nat, q < H.size → ¬ AX q → H1[q]? = H[q]?) → va_S A0 H0 H1 locs1 → H1[q9]? = some ce → ce.vm = .none → s.vm.findClass E = some ce.cls → vx_W p l e R s m args below meth c H1 locs1 (cells + mc) (slots + ms) Q (F0 m pc ls rest) q9)
    (kk : ∀ (r : UInt64) (u : S) (t : State) (H1 : Heap) (locs1 : List Loc), t.heap = H1 → s.vm.Alike t.vm → post r u → B u t → H.size ≤ H1.size → (∀ q : Nat, q < H.size → ¬ A1 q → H1[q]? = H[q]?) → va_S A0 H0 H1 locs1 → W p l e R s m args below meth c H1 locs1 (cells + mc) (slots + ms) Q (F0 m (pc + 3) ls (.double r :: rest))) : W p l e R s m args below meth c H locs cells slots Q (F0 m pc ls st0) := by
  intro T hT X
  rcases hr T hT X with ⟨v, st₀, t, T', L, h0, X', hL, e1, e2, ⟨⟨r, u, hv, hp, hb⟩, hF⟩, st⟩ | ⟨q, st₀, t, T', L, E, ce, h0, X', hL, e1, e2, ⟨u, hp, hb, hF⟩, hce, hcv, hcl, st⟩
  · cases hv
    obtain ⟨k1, k2, k3⟩ := vx_keep h0 e1 hS hA hf hL hF
    obtain ⟨t2, a1, b1⟩ := kk r u t T'.heap (locs ++ L) e1.symm (by rw [← e2]; exact X'.warmed.alike) hp hb k1 k2 k3 T' rfl X'
    exact ⟨t2, st t2 a1, b1⟩
  · obtain ⟨k1, k2, k3⟩ := vx_keep h0 e1 hS hAX hf hL hF
    obtain ⟨t2, a1, b1⟩ := kx E ce q u t T'.heap (locs ++ L) e1.symm (by rw [← e2]; exact X'.warmed.alike) hp hb k1 k2 k3 (by rw [e1]; exact hce) hcv hcl T' rfl X'
    exact ⟨t2, st.trans a1, b1⟩
theorem vx_callv {S SX : Type} {post : S → Prop} {px : SX → Prop} {B : S → State → Prop} {BX : String → SX → State → Prop} {AX : Nat → Prop} (hr : vx_Run p l e R s m args below meth c H locs cells slots mc ms (F0 m pc ls st0) rest (va_Qv post B A1 a) (vx_X px BX AX) free) (hS : va_S A0 H0 H locs) (hA : ∀ q, q < H.size → A1 q → A0 q) (hf : ∀ q, free q → A0 q) (hAX : ∀ q, q < H.size → AX q → A0 q)
    (kx : ∀ (E : String) (ce : Cell) (q9 : Addr) (u : SX) (t : State) (H1 : Heap) (locs1 : List Loc), t.heap = H1 → s.vm.Alike t.vm → px u → BX E u t → H.size ≤ H1.size → (∀ q : Nat, q < H.size → ¬ AX q → H1[q]? = H[q]?) → va_S A0 H0 H1 locs1 → H1[q9]? = some ce → ce.vm = .none → s.vm.findClass E = some ce.cls → vx_W p l e R s m args below meth c H1 locs1 (cells + mc) (slots + ms) Q (F0 m pc ls rest) q9)
    (kk : ∀ (u : S) (t : State) (H1 : Heap) (locs1 : List Loc), t.heap = H1 → s.vm.Alike t.vm → post u → B u t → H.size ≤ H1.size → (∀ q : Nat, q < H.size → ¬ A1 q → H1[q]? = H[q]?) → va_S A0 H0 H1 locs1 → W p l e R s m args below meth c H1 locs1 (cells + mc) (slots + ms) Q (F0 m (pc + 3) ls (rest))) : W p l e R s m args below meth c H locs cells slots Q (F0 m pc ls st0) := by
  intro T hT X
  rcases hr T hT X with ⟨v, st₀, t, T', L, h0, X', hL, e1, e2, ⟨⟨u, hv, hp, hb⟩, hF⟩, st⟩ | ⟨q, st₀, t, T', L, E, ce, h0, X', hL, e1, e2, ⟨u, hp, hb, hF⟩, hce, hcv, hcl, st⟩
  · cases hv
    obtain ⟨k1, k2, k3⟩ := vx_keep h0 e1 hS hA hf hL hF
    obtain ⟨t2, a1, b1⟩ := kk u t T'.heap (locs ++ L) e1.symm (by rw [← e2]; exact X'.warmed.alike) hp hb k1 k2 k3 T' rfl X'
    exact ⟨t2, st t2 a1, b1⟩
  · obtain ⟨k1, k2, k3⟩ := vx_keep h0 e1 hS hAX hf hL hF
    obtain ⟨t2, a1, b1⟩ := kx E ce q u t T'.heap (locs ++ L) e1.symm (by rw [← e2]; exact X'.warmed.alike) hp hb k1 k2 k3 (by rw [e1]; exact hce) hcv hcl T' rfl X'
    exact ⟨t2, st.trans a1, b1⟩
/-- caught by the row x of this method's table; the rows ahead don't take it -/
theorem vx_catch {own name : String} {E : String} {ce : Cell} {q : Addr} (hown : s.vm.findClass own = some m.cls) (pre : List ExceptionTableEntry) (x : ExceptionTableEntry) (suf : List ExceptionTableEntry) (hsplit : c.exceptionTable.toList = pre ++ x :: suf)
    (hpass : ∀ z ∈ pre, covers z pc = false ∨ (z.catchType ≠ 0 ∧ ∃ nm : String, (Cond.classLink own z.catchType nm).before args s = true ∧ va_Nc E nm s)) (hx : covers x pc = true) (h0 : x.catchType ≠ 0)
    (hlink : (Cond.classLink own x.catchType name).before args s = true) (hcast : (Cond.castable E name).before args s = true) (hcell : H[q]? = some ce) (hv : ce.vm = .none) (hcl : s.vm.findClass E = some ce.cls)
    (kk : W p l e R s m args below meth c H locs cells slots Q (F0 m x.handlerPc ls [.ref q])) : vx_W p l e R s m args below meth c H locs cells slots Q (F0 m pc ls rest) q := by
  intro T hT X
  have hpl : e.platform.magicAccessors = ({} : Platform).magicAccessors := by rw [X.admits.platform]
  obtain ⟨c3, c4, hc3, hc4, hasg⟩ := Cond.castable_spec hcast
  cases Option.some.inj (hc3.symm.trans hcl)
  obtain ⟨c5, hc5, hcl5⟩ := Cond.classLink_spec hown hlink e.platform hpl
  cases Option.some.inj (hc4.symm.trans hc5)
  obtain ⟨vm', X', st⟩ := X.thenCaughtThrough q (g := F0 m pc ls rest) rfl (Steps.refl _) (by rw [hT]; exact hcell) (by rw [hv]; rfl) (by obtain ⟨k9, h9, -⟩ := Vm.findClass_spec hcl; exact ⟨k9, h9⟩) pre x suf hsplit
    (fun z hz => by
      rcases hpass z hz with h | ⟨hz0, nm, hl1, hn1⟩
      · exact Or.inl h
      · obtain ⟨c6, hc6, hcl6⟩ := Cond.classLink_spec hown hl1 e.platform hpl
        obtain ⟨a8, b8, h1, h2, h3⟩ := hn1
        cases Option.some.inj (h1.symm.trans hcl)
        cases Option.some.inj (h2.symm.trans hc6)
        exact Or.inr ⟨hz0, _, hcl6, h3⟩) hx (Or.inr ⟨h0, c4, hcl5, hasg⟩)
  obtain ⟨t, a1, b1⟩ := kk (T.setVm vm') hT X'
  exact ⟨t, st.trans a1, b1⟩
end Rows
section Ends
variable {p : Program} {l : Launch} {e : Env} {R : Room} {s : State} {m : MethodId} {args : Array Value} {below : List Frame} {meth : Method} {c : Code} {H : Heap} {locs : List Loc} {cells slots : Nat} {Q : State → Prop}
variable {mc ms : Nat} {free : Addr → Prop} {A0 A1 : Nat → Prop} {H0 : Heap} {a : Array Value} {ls : Array Slot} {st0 rest : List Value}
variable {Qc : Array Value → State → Outcome → State → Prop} {XC : String → State → State → Prop}
/-- what a body that may throw owes at its end -/
def vx_MQ (below : List Frame) (Qc : Array Value → State → Outcome → State → Prop) (XC : String → State → State → Prop) (a : Array Value) (s : State) (mc ms : Nat) (free : Addr → Prop) : State → Prop := fun t =>
  ∃ o, t.status = .running ∧ Ended t below o ∧ vx_Q Qc XC mc ms free a s o t
theorem vx_ret {g : JFrame} {mc ms : Nat} (k : W p l e R s m args below meth c H locs cells slots (MQ below Qc args s mc ms free) g) : W p l e R s m args below meth c H locs cells slots (vx_MQ below Qc XC args s mc ms free) g := by
  intro T hT X
  obtain ⟨t, a1, o, b1, b2, b3, b4⟩ := k T hT X
  exact ⟨t, a1, o, b1, b2, Or.inl ⟨b3, b4⟩⟩
/-- not caught here: it goes on to the caller -/
theorem vx_widen {g : JFrame} {q : Addr} {k n : Nat} (h1 : cells ≤ k) (h2 : slots ≤ n) (kk : vx_W p l e R s m args below meth c H locs k n Q g q) : vx_W p l e R s m args below meth c H locs cells slots Q g q := fun T hT X => kk T hT (stand_widen X h1 h2)
theorem vx_out {pc : Nat} {E : String} {ce : Cell} {q : Addr} {mc ms : Nat} (hout : ∀ x ∈ c.exceptionTable.toList, covers x pc = false) (hlocks : meth.locks = false) (hcell : H[q]? = some ce) (hv : ce.vm = .none) (hcl : s.vm.findClass E = some ce.cls)
    (hx : ∀ t : State, t.heap = H → s.vm.Alike t.vm → XC E s t) (hf : ∀ z ∈ locs, free z.base) (hc : cells ≤ mc) (hs : slots ≤ ms) :
    vx_W p l e R s m args below meth c H locs cells slots (vx_MQ below Qc XC args s mc ms free) (F0 m pc ls rest) q := by
  intro T hT X
  obtain ⟨st1, hrun, hend, hW, hsm⟩ := X.leaveThrown q (g := F0 m pc ls rest) rfl rfl rfl hout hlocks
  have hcell9 : (T.setFrames (.throwing q :: below)).heap[q]? = some ce := by
    show T.heap[q]? = some ce
    rw [hT]; exact hcell
  exact ⟨_, st1, .threw q, hrun, hend, Or.inr ⟨q, rfl, E, ce, locs, hx _ hT hW.alike, hcell9, hv, hcl, hW, hsm.mono hc hs, hf⟩⟩
theorem vx_frame {U : State} {k n : Nat} (h : s.sameButNew ({ U with vm := s.vm } : State) locs k n) : s.heap.size ≤ U.heap.size ∧ ∀ q : Nat, q < s.heap.size → (∀ z ∈ locs, z.base ≠ q) → U.heap[q]? = s.heap[q]? := by
  obtain ⟨-, h2, -, -, -, h6⟩ := h
  refine ⟨h2, fun q hq hz => ?_⟩
  obtain ⟨c9, e1, e2, e3, e4⟩ := h6 q _ (Array.getElem?_eq_getElem hq)
  have hs : c9.slots = (s.heap[q]).slots := Array.ext_getElem? fun i => e4 i fun hm => hz _ hm rfl
  have h9 : c9 = s.heap[q] := by
    rw [hs] at e2
    exact e2
  have e5 : U.heap[q]? = some c9 := e1
  rw [e5, h9, Array.getElem?_eq_getElem hq]
/-- the words of a throw but the four that speak of the heap -/
def vx_no (w : Cond) : Bool := decide (w ≠ .isRef (.static Bundle.tN "UNASSIGNED_STACK" Bundle.steD)) && decide (w ≠ .isRef (.static Bundle.tN "SUPPRESSED_SENTINEL" Bundle.listD)) && decide (w ≠ .laysStatic Bundle.tN "UNASSIGNED_STACK" Bundle.steD) && decide (w ≠ .laysStatic Bundle.tN "SUPPRESSED_SENTINEL" Bundle.listD)
def vx_at0 (own : String) (ic : Nat) (X : String) (names : List String) : List Cond := (Bundle.ownAtoms0 own ic X names).filter vx_no
def vx_atS (own : String) (ic : Nat) (X : String) (names : List String) : List Cond := (Bundle.ownAtoms own ic X names).filter vx_no
/-- a word that the tables alone decide, or a good one -/
def vx_ot (w : Cond) : Bool := w.onTables || goodWord w
theorem vx_ot_at {args a' : Array Value} {s U : State} {w : Cond} (hW : s.WarmedH U.vm) (hvm : s.vm = U.vm) (hg : vx_ot w = true) (h : w.before args s = true) : w.before a' U = true := by
  simp only [vx_ot, Bool.or_eq_true] at hg
  rcases hg with hg | hg
  · exact va_tabs hg hvm h
  · exact word_at hW (good_of_word hg) h
/-- a list's words: the good ones out of the method's own list, the others by premises of their own -/
theorem vx_hat {args : Array Value} {s : State} {L B : List Cond} (h1 : ∀ w ∈ L.filter goodWord, w.before args s = true) (h2 : ∀ w ∈ L.filter (fun w => !goodWord w), w ∈ B) (h3 : ∀ w ∈ B, w.before args s = true) : ∀ w ∈ L, w.before args s = true := by
  intro w hw
  by_cases g : goodWord w = true
  · exact h1 w (List.mem_filter.mpr ⟨hw, g⟩)
  · refine h3 w (h2 w (List.mem_filter.mpr ⟨hw, ?_⟩))
    show (!goodWord w) = true
    cases hgw : goodWord w
    · rfl
    · exact absurd hgw g
theorem vx_c {args : Array Value} {s : State} {w : Cond} {B : List Cond} (h : w.before args s = true) (t : ∀ w ∈ B, w.before args s = true) : ∀ w' ∈ w :: B, w'.before args s = true := fun w' h' => (List.mem_cons.mp h').elim (fun e => by rw [e]; exact h) (t w')
theorem vx_n {args : Array Value} {s : State} : ∀ w ∈ ([] : List Cond), w.before args s = true := fun _ h => nomatch h
theorem vx_own {args : Array Value} {s : State} {L : List Cond} (h1 : ∀ w ∈ L.filter vx_no, w.before args s = true)
    (hU : (Cond.isRef (.static Bundle.tN "UNASSIGNED_STACK" Bundle.steD)).before args s = true) (hN : (Cond.isRef (.static Bundle.tN "SUPPRESSED_SENTINEL" Bundle.listD)).before args s = true)
    (lU : (Cond.laysStatic Bundle.tN "UNASSIGNED_STACK" Bundle.steD).before args s = true) (lN : (Cond.laysStatic Bundle.tN "SUPPRESSED_SENTINEL" Bundle.listD).before args s = true) : ∀ w ∈ L, w.before args s = true := by
  intro w hw
  by_cases e1 : w = .isRef (.static Bundle.tN "UNASSIGNED_STACK" Bundle.steD)
  · rw [e1]; exact hU
  · by_cases e2 : w = .isRef (.static Bundle.tN "SUPPRESSED_SENTINEL" Bundle.listD)
    · rw [e2]; exact hN
    · by_cases e3 : w = .laysStatic Bundle.tN "UNASSIGNED_STACK" Bundle.steD
      · rw [e3]; exact lU
      · by_cases e4 : w = .laysStatic Bundle.tN "SUPPRESSED_SENTINEL" Bundle.listD
        · rw [e4]; exact lN
        · exact h1 w (List.mem_filter.mpr ⟨hw, by unfold vx_no; rw [decide_eq_true e1, decide_eq_true e2, decide_eq_true e3, decide_eq_true e4]; rfl⟩)
/-- where a static field lies, its class's statics cell in H -/
def vx_L (C n d : String) (A : Nat → Prop) (U : State) (H : Heap) : Prop := ∃ (c : ClassId) (k : Class) (i : Nat) (f : Field) (a : Nat) (cell : Cell), U.vm.findClass C = some c ∧ U.fieldFound? C n d = some (c, k, i, f) ∧ f.isStatic = true ∧ k.statics = some a ∧ H[a]? = some cell ∧ cell.vm.isStatics = true ∧ cell.cls = c ∧ f.slot < cell.slots.size ∧ k.staticTypes[f.slot]? = some f.type ∧ ¬ A a
theorem vx_L.moved {C n d : String} {A : Nat → Prop} {u U : State} {H : Heap} (hvm : u.vm.Alike U.vm) (h : vx_L C n d A u H) : vx_L C n d A U H := by
  obtain ⟨c, k, i, f, a, cell, h1, h2, h3, h4, h5, h6, h7, h8, h9, h10⟩ := h
  obtain ⟨k', hi', he⟩ := State.fieldFound?_setVm hvm h2
  exact ⟨c, k', i, f, a, cell, by rw [hvm.findClass]; exact h1, hi', h3, by rw [he]; exact h4, h5, h6, h7, h8, by rw [he]; exact h9, h10⟩
theorem vx_L.kept {C n d : String} {A : Nat → Prop} {U : State} {H H1 : Heap} (h : vx_L C n d A U H) (hq : ∀ a : Nat, a < H.size → ¬ A a → H1[a]? = H[a]?) : vx_L C n d A U H1 := by
  obtain ⟨c, k, i, f, a, cell, h1, h2, h3, h4, h5, h6, h7, h8, h9, h10⟩ := h
  exact ⟨c, k, i, f, a, cell, h1, h2, h3, h4, by rw [hq a (Array.getElem?_eq_some_iff.mp h5).1 h10]; exact h5, h6, h7, h8, h9, h10⟩
theorem vx_L.narrow {C n d : String} {A B : Nat → Prop} {U : State} {H : Heap} (h : vx_L C n d A U H) (hAB : ∀ q, B q → A q) : vx_L C n d B U H := by
  obtain ⟨c, k, i, f, a, cell, h1, h2, h3, h4, h5, h6, h7, h8, h9, h10⟩ := h
  exact ⟨c, k, i, f, a, cell, h1, h2, h3, h4, h5, h6, h7, h8, h9, fun z => h10 (hAB _ z)⟩
theorem vx_L.word {C n d : String} {A : Nat → Prop} {s : State} {args : Array Value} (h : vx_L C n d A s s.heap) : (Cond.laysStatic C n d).before args s = true := by
  obtain ⟨c, k, i, f, a, cell, h1, h2, h3, h4, h5, h6, h7, h8, h9, -⟩ := h
  show (Cond.laysStatic C n d).holds args s none s [] = true
  exact Cond.laysStatic_of h1 h2 h3 h4 h5 h6 h7 h8 h9
/-- .. and what it holds: null or some reference -/
def vx_Zq (C n d : String) (A : Nat → Prop) (U : State) (H : Heap) : Prop := va_Zq C n d A U H ∧ vx_L C n d A U H
theorem vx_Zq.moved {C n d : String} {A : Nat → Prop} {u U : State} {H : Heap} (hvm : u.vm.Alike U.vm) (h : vx_Zq C n d A u H) : vx_Zq C n d A U H := ⟨va_Zq.moved hvm h.1, vx_L.moved hvm h.2⟩
theorem vx_Zq.kept {C n d : String} {A : Nat → Prop} {U : State} {H H1 : Heap} (h : vx_Zq C n d A U H) (hq : ∀ a : Nat, a < H.size → ¬ A a → H1[a]? = H[a]?) : vx_Zq C n d A U H1 := ⟨va_Zq.kept h.1 hq, vx_L.kept h.2 hq⟩
theorem vx_Zq.narrow {C n d : String} {A B : Nat → Prop} {U : State} {H : Heap} (h : vx_Zq C n d A U H) (hAB : ∀ q, B q → A q) : vx_Zq C n d B U H := ⟨va_Zq.narrow h.1 hAB, vx_L.narrow h.2 hAB⟩
theorem vx_Zqof {args : Array Value} {s : State} {C n d : String} {A : Nat → Prop} (hl : (Cond.laysStatic C n d).before args s = true) (hini : (Cond.initialized C).before args s = true) (h : (Cond.isRef (.static C n d)).before args s = true) (hA : ∀ a : Nat, a < s.heap.size → ¬ A a) : vx_Zq C n d A s s.heap := by
  refine ⟨va_Zqof hl hini h hA, ?_⟩
  obtain ⟨c, k, i, f, a, cell, h1, h2, h3, h4, h5, h6, h7, h8, h9⟩ := Cond.laysStatic_spec hl
  exact ⟨c, k, i, f, a, cell, h1, h2, h3, h4, h5, h6, h7, h8, h9, hA a (Array.getElem?_eq_some_iff.mp h5).1⟩
theorem vx_isRef {C n d : String} {v : Value} {A : Nat → Prop} {s : State} {args : Array Value} (h : va_Z C n d v A s s.heap) (hv : v.isRef = true) : (Cond.isRef (.static C n d)).before args s = true := by
  obtain ⟨cf, kf, fi, f, a, cell, h1, h2, h3, h4, h5, h6, h7, -⟩ := h
  have he : (Term.static C n d).eval args s none [] s = some v := by
    simp [Term.eval, State.fieldNamed?, h1, h2, h4, h5, h6, h7]
  simp only [Cond.before, Cond.holds, Cond.value, he]
  cases v <;> simp_all [Value.isRef]
theorem vx_isRefq {C n d : String} {A : Nat → Prop} {s : State} {args : Array Value} (h : va_Zq C n d A s s.heap) : (Cond.isRef (.static C n d)).before args s = true := by
  rcases h with h | ⟨t, h⟩
  · exact vx_isRef h rfl
  · exact vx_isRef h rfl
/-- the same frame, seen from here: as if the method were called anew in this heap -/
theorem vx_rebase {T : State} (X : Stand p l e R s m args below meth c T locs cells slots) {R' : Room} (hf : R'.frames ≤ R.frames) (hl : R'.locals ≤ R.locals) (hc : cells + R'.cells ≤ R.cells) (hs : slots + R'.slots ≤ R.slots) :
    Stand p l e R' ((T.setVm s.vm).setFrames (.invoking m args :: below)) m args below meth c T [] 0 0 := by
  have htop : (T.setVm s.vm).topJava?.isSome := X.here.top
  have hF : ((T.setVm s.vm).setFrames (.invoking m args :: below)).frames = .invoking m args :: below := State.frames_setFrames _ (State.cur_lt_of_top htop)
  obtain ⟨g₀, hg0⟩ := Option.isSome_iff_exists.mp htop
  obtain ⟨r, hr⟩ := State.topJava?_eq_some.mp hg0
  have hl9 : e.platform.stackLimits (T.setVm s.vm).me = e.platform.stackLimits s.me := X.limits
  have hb9 : (T.setVm s.vm).me.stackBytes = s.me.stackBytes := X.bytes
  refine ⟨X.admits, X.cas, X.clock, hF, ?_, X.hears, X.method, X.code, X.here, X.tail, X.warmed, ?_, ?_, ?_⟩
  · have h := X.room
    have hU : ((T.setVm s.vm).setFrames (.invoking m args :: below)).localsInUse = s.localsInUse := by
      rw [State.localsInUse_invoking hF (meth := meth) (c := c) X.method X.code, State.localsInUse_invoking X.frames X.method X.code]
    simp only [State.hasRoom, Bool.and_eq_true, decide_eq_true_eq] at h ⊢
    obtain ⟨⟨⟨⟨h1, h2, h3, h4, h5, h6⟩, h7⟩, h8⟩, h9⟩ := h
    rw [X.frames, List.length_cons] at h2 h3
    have q1 := X.heapSize
    have q2 := X.used
    simp only [hF, hU, List.length_cons, State.stackLimits_setFrames, State.stackBytes_setFrames, hl9, hb9]
    refine ⟨⟨⟨⟨by omega, by omega, by omega, by omega, by omega, h6⟩, ?_⟩, ?_⟩, X.book⟩
    · show T.heap.size + R'.cells ≤ e.platform.maxCells
      omega
    · show T.slotsUsed + R'.slots ≤ e.platform.maxSlots
      omega
  · rw [State.stackLimits_setFrames]; rfl
  · rw [State.stackBytes_setFrames]; rfl
  · refine ⟨?_, Nat.le_refl _, Nat.le_refl _, ?_, ?_, fun a c9 h9 => ⟨c9, h9, rfl, rfl, fun _ _ => rfl⟩⟩
    · obtain ⟨t, ht, -⟩ := State.frames_cons hr
      show T.setVm s.vm = { ((T.setVm s.vm).setFrames (.invoking m args :: below)).setFrames (T.setVm s.vm).frames with heap := T.heap, slotsUsed := T.slotsUsed }
      rw [State.setFrames_setFrames, State.setFrames_self ht]
      rfl
    · show T.slotsUsed = T.slotsUsed + ((T.heap.toList.drop T.heap.size).map (·.slots.size)).sum
      rw [List.drop_eq_nil_of_le (Nat.le_of_eq Array.length_toList)]
      rfl
    · show ((T.heap.toList.drop T.heap.size).map (·.slots.size)).sum ≤ 0
      rw [List.drop_eq_nil_of_le (Nat.le_of_eq Array.length_toList)]
      exact Nat.le_refl _
/-- 'throw new E()': new; dup; invokespecial; athrow -/
theorem vx_throw0 {cc : ByteArray} {pc : Nat} (hexec : p.tables.exec = Jvm.exec) (hb : c.code = cc) (hl : l.stackTraces = false) {own cls : String} {names : List String} {ik ic mc ms : Nat} {A : Nat → Prop}
    (hown : s.vm.findClass own = some m.cls) (hcls : Bundle.fit cls = true) (hnames : ∀ n ∈ names, Bundle.fit n = true)
    (hk : (Cond.classLink own ik cls).before args s = true) (hini : (Cond.initialized cls).before args s = true) (hat : ∀ w ∈ vx_at0 own ic cls names, w.before args s = true)
    (hgood : ∀ w ∈ Cond.classLink own ik cls :: Cond.initialized cls :: vx_at0 own ic cls names, vx_ot w = true)
    (hU : vx_Zq Bundle.tN "UNASSIGNED_STACK" Bundle.steD A s s.heap) (hN : vx_Zq Bundle.tN "SUPPRESSED_SENTINEL" Bundle.listD A s s.heap) (hS : va_S A s.heap H locs) (hsize : ls.size = c.maxLocals)
    (d0 : decode cc pc = .ok (.new ik, 3)) (d3 : decode cc (pc + 3) = .ok (.dup, 1)) (d4 : decode cc (pc + 4) = .ok (.invokespecial ic, 3)) (d7 : decode cc (pc + 7) = .ok (.athrow, 1))
    (hout : ∀ x ∈ c.exceptionTable.toList, covers x (pc + 7) = false)
    (hRframes : names.length + 3 < R.frames) (hRlocals : (rest.map fun v => v.category).sum + (13 * (names.length + 1) + 42) ≤ R.locals) (hRcells : cells + 1 ≤ R.cells) (hRslots : slots + 6 ≤ R.slots) (hlocks : meth.locks = false)
    (hx : ∀ t : State, s.vm.Alike t.vm → H.size ≤ t.heap.size → (∀ q : Nat, q < H.size → t.heap[q]? = H[q]?) → XC cls s t)
    (hf : ∀ z ∈ locs, free z.base) (hc : cells + 1 ≤ mc) (hs : slots + 6 ≤ ms) :
    W p l e R s m args below meth c H locs cells slots (vx_MQ below Qc XC args s mc ms free) (F0 m pc ls rest) := by
  intro T hT X
  have htr : e.platform.stackTraces = false := (show e.platform.stackTraces = l.stackTraces by rw [X.admits.platform]).trans hl
  have Y := vx_rebase X (R' := { frames := R.frames, locals := R.locals, cells := 1, slots := 6 }) (Nat.le_refl _) (Nat.le_refl _) hRcells hRslots
  obtain ⟨s', hA⟩ : ∃ z, z = (T.setVm s.vm).setFrames (.invoking m args :: below) := ⟨_, rfl⟩
  rw [← hA] at Y
  have hvm : s'.vm = s.vm := by rw [hA]; rfl
  have hhp : s'.heap = H := by rw [hA]; exact hT
  have hW0 : s.WarmedH s'.vm := by rw [hvm]; exact State.WarmedH.refl s
  have hat' : ∀ w ∈ vx_at0 own ic cls names, w.before args s' = true := fun w hw => vx_ot_at hW0 hvm.symm (hgood w (List.mem_cons_of_mem _ (List.mem_cons_of_mem _ hw))) (hat w hw)
  have hk' : (Cond.classLink own ik cls).before args s' = true := vx_ot_at hW0 hvm.symm (hgood _ List.mem_cons_self) hk
  have hini' : (Cond.initialized cls).before args s' = true := vx_ot_at hW0 hvm.symm (hgood _ (List.mem_cons_of_mem _ List.mem_cons_self)) hini
  have hU' : vx_Zq Bundle.tN "UNASSIGNED_STACK" Bundle.steD A s' s'.heap := by rw [hhp]; exact vx_Zq.moved hW0.alike (hU.kept hS.2.1)
  have hN' : vx_Zq Bundle.tN "SUPPRESSED_SENTINEL" Bundle.listD A s' s'.heap := by rw [hhp]; exact vx_Zq.moved hW0.alike (hN.kept hS.2.1)
  have h : ∀ w ∈ Bundle.ownAtoms0 own ic cls names, w.before args s' = true := vx_own hat' (vx_isRefq hU'.1) (vx_isRefq hN'.1) hU'.2.word hN'.2.word
  have hown' : s'.vm.findClass own = some m.cls := by rw [hvm]; exact hown
  have hins : (Cond.instantiable cls 6).before args s' = true := h _ (by simp [Bundle.ownAtoms0])
  obtain ⟨vm₁, cX, kX, hfX, hkX, -, -, X₁, st1⟩ := Y.newCold hexec (own := own) (C := cls) (index := ik) (n := 6) hown' hk' hins hini'
    (g := F0 m pc ls rest) rfl (by rw [hb]; exact d0) (Nat.le_refl _) (Nat.le_refl _)
  generalize hT1 : (T.setVm vm₁).pushCell { cls := cX, slots := kX.instanceTypes.map defaultValue, vm := .none } = T1 at X₁ st1
  have hcat : (Value.ref T.heap.size).category = 1 := rfl
  have hcellA : T1.heap[T.heap.size]? = some (freshCell cX kX) := by rw [← hT1]; exact State.heap_pushCell_size _ _
  have d3' : decode c.code (pc + 3) = .ok (.dup, 1) := by rw [hb]; exact d3
  obtain ⟨U, hsteps, hrun, hend, hW, hsame, ce, hce, hO⟩ := X₁.ctorThrow0 hexec htr (own := own) (cls := cls) (names := names) (ic := ic) hown' hcls hnames h (fun x hx => nomatch hx) hfX hkX hcellA (by rw [hhp, hT]; exact Nat.le_refl _)
    (g := { method := m, pc := pc + 4, locals := ls, stack := .ref T.heap.size :: .ref T.heap.size :: rest, locked := none }) rfl hsize rfl rfl (rest := rest) rfl
    (by rw [hb]; exact d4) (by rw [hb]; exact d7) hout hRframes (by simp only [List.map_cons, List.sum_cons, hcat]; omega) hlocks
  obtain ⟨f1, f2⟩ := vx_frame hsame
  rw [hhp] at f1 f2
  have hWs : s.WarmedH U.vm := State.WarmedH.trans hW0 hW
  have hcl : s.vm.findClass cls = some ce.cls := by
    have h9 := hO.cls
    rw [hvm] at h9
    exact h9
  have hall : s.sameButNew ({ U with vm := s.vm } : State) locs mc ms := by
    subst hA
    obtain ⟨e1, e2⟩ := hsame
    rw [State.setFrames_setFrames] at e1
    have h2 : (T.setVm s.vm).sameButNew ({ U with vm := s.vm } : State) [] (0 + 1) (0 + 6) := ⟨e1, e2⟩
    have h3 := X.same.trans h2
    rw [List.append_nil] at h3
    exact h3.mono hc hs
  refine ⟨U, ?_, .threw T.heap.size, hrun, hend, Or.inr ⟨T.heap.size, rfl, cls, ce, locs, hx U hWs.alike f1 (fun q hq => f2 q hq (fun z hz => nomatch hz)), hce, hO.vm, hcl, hWs, hall, hf⟩⟩
  refine st1 _ ?_
  show Steps p.tables e below (T1.setTop { method := m, pc := pc + 3, locals := ls, stack := .ref T.heap.size :: rest, locked := none }) _
  jvm_step X₁.here [X₁.here.top, hexec, d3', Value.category]
  exact hsteps
/-- 'throw new E("text")': new; dup; ldc; invokespecial; athrow -/
theorem vx_throwS {cc : ByteArray} {pc : Nat} (hexec : p.tables.exec = Jvm.exec) (hb : c.code = cc) (hl : l.stackTraces = false) {own cls text : String} {names : List String} {ik is ic mc ms sa : Nat} {A : Nat → Prop}
    (hown : s.vm.findClass own = some m.cls) (hcls : Bundle.fit cls = true) (hnames : ∀ n ∈ names, Bundle.fit n = true)
    (hk : (Cond.classLink own ik cls).before args s = true) (hini : (Cond.initialized cls).before args s = true) (hstr : vk_R own is text sa s) (hat : ∀ w ∈ vx_atS own ic cls names, w.before args s = true)
    (hgood : ∀ w ∈ Cond.classLink own ik cls :: Cond.initialized cls :: vx_atS own ic cls names, vx_ot w = true)
    (hU : vx_Zq Bundle.tN "UNASSIGNED_STACK" Bundle.steD A s s.heap) (hN : vx_Zq Bundle.tN "SUPPRESSED_SENTINEL" Bundle.listD A s s.heap) (hS : va_S A s.heap H locs) (hsize : ls.size = c.maxLocals)
    (d0 : decode cc pc = .ok (.new ik, 3)) (d3 : decode cc (pc + 3) = .ok (.dup, 1)) (d4 : decode cc (pc + 4) = .ok (.ldc is, 2)) (d6 : decode cc (pc + 6) = .ok (.invokespecial ic, 3)) (d9 : decode cc (pc + 9) = .ok (.athrow, 1))
    (hout : ∀ x ∈ c.exceptionTable.toList, covers x (pc + 9) = false)
    (hRframes : names.length + 3 < R.frames) (hRlocals : (rest.map fun v => v.category).sum + (13 * (names.length + 1) + 43) ≤ R.locals) (hRcells : cells + 1 ≤ R.cells) (hRslots : slots + 6 ≤ R.slots) (hlocks : meth.locks = false)
    (hx : ∀ t : State, s.vm.Alike t.vm → H.size ≤ t.heap.size → (∀ q : Nat, q < H.size → t.heap[q]? = H[q]?) → XC cls s t)
    (hf : ∀ z ∈ locs, free z.base) (hc : cells + 1 ≤ mc) (hs : slots + 6 ≤ ms) :
    W p l e R s m args below meth c H locs cells slots (vx_MQ below Qc XC args s mc ms free) (F0 m pc ls rest) := by
  intro T hT X
  have htr : e.platform.stackTraces = false := (show e.platform.stackTraces = l.stackTraces by rw [X.admits.platform]).trans hl
  have Y := vx_rebase X (R' := { frames := R.frames, locals := R.locals, cells := 1, slots := 6 }) (Nat.le_refl _) (Nat.le_refl _) hRcells hRslots
  obtain ⟨s', hA⟩ : ∃ z, z = (T.setVm s.vm).setFrames (.invoking m args :: below) := ⟨_, rfl⟩
  rw [← hA] at Y
  have hvm : s'.vm = s.vm := by rw [hA]; rfl
  have hhp : s'.heap = H := by rw [hA]; exact hT
  have hW0 : s.WarmedH s'.vm := by rw [hvm]; exact State.WarmedH.refl s
  have hat' : ∀ w ∈ vx_atS own ic cls names, w.before args s' = true := fun w hw => vx_ot_at hW0 hvm.symm (hgood w (List.mem_cons_of_mem _ (List.mem_cons_of_mem _ hw))) (hat w hw)
  have hk' : (Cond.classLink own ik cls).before args s' = true := vx_ot_at hW0 hvm.symm (hgood _ List.mem_cons_self) hk
  have hini' : (Cond.initialized cls).before args s' = true := vx_ot_at hW0 hvm.symm (hgood _ (List.mem_cons_of_mem _ List.mem_cons_self)) hini
  have hU' : vx_Zq Bundle.tN "UNASSIGNED_STACK" Bundle.steD A s' s'.heap := by rw [hhp]; exact vx_Zq.moved hW0.alike (hU.kept hS.2.1)
  have hN' : vx_Zq Bundle.tN "SUPPRESSED_SENTINEL" Bundle.listD A s' s'.heap := by rw [hhp]; exact vx_Zq.moved hW0.alike (hN.kept hS.2.1)
  have h : ∀ w ∈ Bundle.ownAtoms own ic cls names, w.before args s' = true := vx_own hat' (vx_isRefq hU'.1) (vx_isRefq hN'.1) hU'.2.word hN'.2.word
  have hown' : s'.vm.findClass own = some m.cls := by rw [hvm]; exact hown
  have hins : (Cond.instantiable cls 6).before args s' = true := h _ (by simp [Bundle.ownAtoms])
  obtain ⟨vm₁, cX, kX, hfX, hkX, -, -, X₁, st1⟩ := Y.newCold hexec (own := own) (C := cls) (index := ik) (n := 6) hown' hk' hins hini'
    (g := F0 m pc ls rest) rfl (by rw [hb]; exact d0) (Nat.le_refl _) (Nat.le_refl _)
  generalize hT1 : (T.setVm vm₁).pushCell { cls := cX, slots := kX.instanceTypes.map defaultValue, vm := .none } = T1 at X₁ st1
  have hcat : (Value.ref T.heap.size).category = 1 := rfl
  have hcellA : T1.heap[T.heap.size]? = some (freshCell cX kX) := by rw [← hT1]; exact State.heap_pushCell_size _ _
  have d3' : decode c.code (pc + 3) = .ok (.dup, 1) := by rw [hb]; exact d3
  have d4' : decode c.code (pc + 4) = .ok (.ldc is, 2) := by rw [hb]; exact d4
  have hstr' : vk_R own is text sa s' := vk_R.warm hW0 hstr
  obtain ⟨U, hsteps, hrun, hend, hW, hsame, ce, hce, hO⟩ := X₁.ctorThrowS hexec htr (own := own) (cls := cls) (names := names) (ic := ic) hown' hcls hnames h (fun x hx => nomatch hx) hfX hkX hcellA (by rw [hhp, hT]; exact Nat.le_refl _) (msg := .ref sa) rfl
    (g := { method := m, pc := pc + 6, locals := ls, stack := .ref sa :: .ref T.heap.size :: .ref T.heap.size :: rest, locked := none }) rfl hsize rfl rfl (rest := rest) rfl
    (by rw [hb]; exact d6) (by rw [hb]; exact d9) hout hRframes (by simp only [List.map_cons, List.sum_cons, hcat]; omega) hlocks
  obtain ⟨f1, f2⟩ := vx_frame hsame
  rw [hhp] at f1 f2
  have hWs : s.WarmedH U.vm := State.WarmedH.trans hW0 hW
  have hcl : s.vm.findClass cls = some ce.cls := by
    have h9 := hO.cls
    rw [hvm] at h9
    exact h9
  have hall : s.sameButNew ({ U with vm := s.vm } : State) locs mc ms := by
    subst hA
    obtain ⟨e1, e2⟩ := hsame
    rw [State.setFrames_setFrames] at e1
    have h2 : (T.setVm s.vm).sameButNew ({ U with vm := s.vm } : State) [] (0 + 1) (0 + 6) := ⟨e1, e2⟩
    have h3 := X.same.trans h2
    rw [List.append_nil] at h3
    exact h3.mono hc hs
  refine ⟨U, ?_, .threw T.heap.size, hrun, hend, Or.inr ⟨T.heap.size, rfl, cls, ce, locs, hx U hWs.alike f1 (fun q hq => f2 q hq (fun z hz => nomatch hz)), hce, hO.vm, hcl, hWs, hall, hf⟩⟩
  refine st1 _ ?_
  show Steps p.tables e below (T1.setTop { method := m, pc := pc + 3, locals := ls, stack := .ref T.heap.size :: rest, locked := none }) _
  jvm_step X₁.here [X₁.here.top, hexec, d3', Value.category]
  exact X₁.ldcString hexec (own := own) (text := text) (index := is) (a := sa) hown' hstr'.1 hstr'.2
    (g := { method := m, pc := pc + 4, locals := ls, stack := .ref T.heap.size :: .ref T.heap.size :: rest, locked := none }) rfl d4' _ hsteps
/-- 'throw new E("text")', the text by a wide index -/
theorem vx_throwSW {cc : ByteArray} {pc : Nat} (hexec : p.tables.exec = Jvm.exec) (hb : c.code = cc) (hl : l.stackTraces = false) {own cls text : String} {names : List String} {ik is ic mc ms sa : Nat} {A : Nat → Prop}
    (hown : s.vm.findClass own = some m.cls) (hcls : Bundle.fit cls = true) (hnames : ∀ n ∈ names, Bundle.fit n = true)
    (hk : (Cond.classLink own ik cls).before args s = true) (hini : (Cond.initialized cls).before args s = true) (hstr : vk_R own is text sa s) (hat : ∀ w ∈ vx_atS own ic cls names, w.before args s = true)
    (hgood : ∀ w ∈ Cond.classLink own ik cls :: Cond.initialized cls :: vx_atS own ic cls names, vx_ot w = true)
    (hU : vx_Zq Bundle.tN "UNASSIGNED_STACK" Bundle.steD A s s.heap) (hN : vx_Zq Bundle.tN "SUPPRESSED_SENTINEL" Bundle.listD A s s.heap) (hS : va_S A s.heap H locs) (hsize : ls.size = c.maxLocals)
    (d0 : decode cc pc = .ok (.new ik, 3)) (d3 : decode cc (pc + 3) = .ok (.dup, 1)) (d4 : decode cc (pc + 4) = .ok (.ldc_w is, 3)) (d7 : decode cc (pc + 7) = .ok (.invokespecial ic, 3)) (d10 : decode cc (pc + 10) = .ok (.athrow, 1))
    (hout : ∀ x ∈ c.exceptionTable.toList, covers x (pc + 10) = false)
    (hRframes : names.length + 3 < R.frames) (hRlocals : (rest.map fun v => v.category).sum + (13 * (names.length + 1) + 43) ≤ R.locals) (hRcells : cells + 1 ≤ R.cells) (hRslots : slots + 6 ≤ R.slots) (hlocks : meth.locks = false)
    (hx : ∀ t : State, s.vm.Alike t.vm → H.size ≤ t.heap.size → (∀ q : Nat, q < H.size → t.heap[q]? = H[q]?) → XC cls s t)
    (hf : ∀ z ∈ locs, free z.base) (hc : cells + 1 ≤ mc) (hs : slots + 6 ≤ ms) :
    W p l e R s m args below meth c H locs cells slots (vx_MQ below Qc XC args s mc ms free) (F0 m pc ls rest) := by
  intro T hT X
  have htr : e.platform.stackTraces = false := (show e.platform.stackTraces = l.stackTraces by rw [X.admits.platform]).trans hl
  have Y := vx_rebase X (R' := { frames := R.frames, locals := R.locals, cells := 1, slots := 6 }) (Nat.le_refl _) (Nat.le_refl _) hRcells hRslots
  obtain ⟨s', hA⟩ : ∃ z, z = (T.setVm s.vm).setFrames (.invoking m args :: below) := ⟨_, rfl⟩
  rw [← hA] at Y
  have hvm : s'.vm = s.vm := by rw [hA]; rfl
  have hhp : s'.heap = H := by rw [hA]; exact hT
  have hW0 : s.WarmedH s'.vm := by rw [hvm]; exact State.WarmedH.refl s
  have hat' : ∀ w ∈ vx_atS own ic cls names, w.before args s' = true := fun w hw => vx_ot_at hW0 hvm.symm (hgood w (List.mem_cons_of_mem _ (List.mem_cons_of_mem _ hw))) (hat w hw)
  have hk' : (Cond.classLink own ik cls).before args s' = true := vx_ot_at hW0 hvm.symm (hgood _ List.mem_cons_self) hk
  have hini' : (Cond.initialized cls).before args s' = true := vx_ot_at hW0 hvm.symm (hgood _ (List.mem_cons_of_mem _ List.mem_cons_self)) hini
  have hU' : vx_Zq Bundle.tN "UNASSIGNED_STACK" Bundle.steD A s' s'.heap := by rw [hhp]; exact vx_Zq.moved hW0.alike (hU.kept hS.2.1)
  have hN' : vx_Zq Bundle.tN "SUPPRESSED_SENTINEL" Bundle.listD A s' s'.heap := by rw [hhp]; exact vx_Zq.moved hW0.alike (hN.kept hS.2.1)
  have h : ∀ w ∈ Bundle.ownAtoms own ic cls names, w.before args s' = true := vx_own hat' (vx_isRefq hU'.1) (vx_isRefq hN'.1) hU'.2.word hN'.2.word
  have hown' : s'.vm.findClass own = some m.cls := by rw [hvm]; exact hown
  have hins : (Cond.instantiable cls 6).before args s' = true := h _ (by simp [Bundle.ownAtoms])
  obtain ⟨vm₁, cX, kX, hfX, hkX, -, -, X₁, st1⟩ := Y.newCold hexec (own := own) (C := cls) (index := ik) (n := 6) hown' hk' hins hini'
    (g := F0 m pc ls rest) rfl (by rw [hb]; exact d0) (Nat.le_refl _) (Nat.le_refl _)
  generalize hT1 : (T.setVm vm₁).pushCell { cls := cX, slots := kX.instanceTypes.map defaultValue, vm := .none } = T1 at X₁ st1
  have hcat : (Value.ref T.heap.size).category = 1 := rfl
  have hcellA : T1.heap[T.heap.size]? = some (freshCell cX kX) := by rw [← hT1]; exact State.heap_pushCell_size _ _
  have d3' : decode c.code (pc + 3) = .ok (.dup, 1) := by rw [hb]; exact d3
  have d4' : decode c.code (pc + 4) = .ok (.ldc_w is, 3) := by rw [hb]; exact d4
  have hstr' : vk_R own is text sa s' := vk_R.warm hW0 hstr
  obtain ⟨U, hsteps, hrun, hend, hW, hsame, ce, hce, hO⟩ := X₁.ctorThrowS hexec htr (own := own) (cls := cls) (names := names) (ic := ic) hown' hcls hnames h (fun x hx => nomatch hx) hfX hkX hcellA (by rw [hhp, hT]; exact Nat.le_refl _) (msg := .ref sa) rfl
    (g := { method := m, pc := pc + 7, locals := ls, stack := .ref sa :: .ref T.heap.size :: .ref T.heap.size :: rest, locked := none }) rfl hsize rfl rfl (rest := rest) rfl
    (by rw [hb]; exact d7) (by rw [hb]; exact d10) hout hRframes (by simp only [List.map_cons, List.sum_cons, hcat]; omega) hlocks
  obtain ⟨f1, f2⟩ := vx_frame hsame
  rw [hhp] at f1 f2
  have hWs : s.WarmedH U.vm := State.WarmedH.trans hW0 hW
  have hcl : s.vm.findClass cls = some ce.cls := by
    have h9 := hO.cls
    rw [hvm] at h9
    exact h9
  have hall : s.sameButNew ({ U with vm := s.vm } : State) locs mc ms := by
    subst hA
    obtain ⟨e1, e2⟩ := hsame
    rw [State.setFrames_setFrames] at e1
    have h2 : (T.setVm s.vm).sameButNew ({ U with vm := s.vm } : State) [] (0 + 1) (0 + 6) := ⟨e1, e2⟩
    have h3 := X.same.trans h2
    rw [List.append_nil] at h3
    exact h3.mono hc hs
  refine ⟨U, ?_, .threw T.heap.size, hrun, hend, Or.inr ⟨T.heap.size, rfl, cls, ce, locs, hx U hWs.alike f1 (fun q hq => f2 q hq (fun z hz => nomatch hz)), hce, hO.vm, hcl, hWs, hall, hf⟩⟩
  refine st1 _ ?_
  show Steps p.tables e below (T1.setTop { method := m, pc := pc + 3, locals := ls, stack := .ref T.heap.size :: rest, locked := none }) _
  jvm_step X₁.here [X₁.here.top, hexec, d3', Value.category]
  exact X₁.ldcStringW hexec (own := own) (text := text) (index := is) (a := sa) hown' hstr'.1 hstr'.2
    (g := { method := m, pc := pc + 4, locals := ls, stack := .ref T.heap.size :: .ref T.heap.size :: rest, locked := none }) rfl d4' _ hsteps
end Ends
section Bodies
variable {l : Launch}
theorem vx_ofW {y : MethodName} {ws ws' : List Cond} {rm : Room} {Pc : Array Value → State → Prop} {Qc : Array Value → State → Outcome → State → Prop} {XC : String → State → State → Prop} {mc ms : Nat} {free : Addr → Prop} {cc : ByteArray} {maxL : Nat} {ret : Option FieldType}
    (hy : plainName y.cls = true) (hw : ws = Cond.code y cc maxL ret :: ws')
    (body : ∀ p e s m args below meth c s₁, BodyLoose p l y (headSpec ws rm) cc maxL ret e s m args below meth c s₁ → c.maxLocals = maxL → (∀ x ∈ c.exceptionTable.toList, False) → Pc args s →
      W p l e (headSpec ws rm).room s m args below meth c s.heap [] 0 0 (vx_MQ below Qc XC args s mc ms free) (entryFrame m args maxL)) : vx_Met l y ws rm Pc Qc XC mc ms free := by
  refine MetFree.of_bodyS (code := cc) (maxLocals := maxL) (ret := ret) hy ?_ ?_
  · intro args s m h hn
    obtain ⟨meth, c, h1, h2, h3, h4, h5, h6, -, -⟩ := Cond.code_spec hn (atoms_spec (ws := ws) h _ (by rw [hw]; exact List.mem_cons_self))
    exact ⟨meth, c, h1, h2, h3, h4, h5, h6⟩
  · intro p e s m args below meth c s₁ B hml hP _
    have hh0 : s₁.heap = s.heap := by rw [B.state]; rfl
    have ht : ∀ x ∈ c.exceptionTable.toList, False := by
      obtain ⟨meth9, c9, h1, h2, -, -, -, -, h7, -⟩ := Cond.code_spec B.named (atoms_spec (ws := ws) B.pre _ (by rw [hw]; exact List.mem_cons_self))
      cases Option.some.inj (h1.symm.trans B.method)
      cases Option.some.inj (h2.symm.trans (Stand.of_body B).code)
      intro x hx
      rw [Array.isEmpty_iff.mp h7] at hx
      cases hx
    obtain ⟨t, a1, o, b1, b2, b3⟩ := body p e s m args below meth c s₁ B hml ht hP s₁ hh0 (Stand.of_body B)
    exact ⟨t, o, a1, b1, b2, b3⟩
/-- the table of a body with handlers -/
theorem vx_table {p : Program} {x y : MethodName} {S : Spec} {cc bytes : ByteArray} {maxL maxL' : Nat} {ret ret' : Option FieldType} {e : Env} {s s₁ : State} {m : MethodId} {args : Array Value} {below : List Frame} {meth : Method} {c : Code} {hh : List (Nat × Nat × Nat × Nat)}
    (B : BodyLoose p l y S cc maxL ret e s m args below meth c s₁) (h : (Cond.codeWith y bytes maxL' ret' hh).before args s = true) : c.exceptionTable.toList = tableOf hh := by
  obtain ⟨m9, meth9, c9, hn9, h1, h2, -, -, h6, -⟩ := Cond.codeWith_spec h
  cases Option.some.inj (hn9.symm.trans B.named)
  cases Option.some.inj (h1.symm.trans B.method)
  cases Option.some.inj (h2.symm.trans (Stand.of_body B).code)
  rw [← h6, table_eq]
end Bodies
end VXA
/-! ===== END ===== -/
/-! ===== BEGIN a static call of a method with an exception table ===== -/
section VXS
variable {p : Program} {l : Launch} {e : Env} {R : Room} {s : State} {m : MethodId} {args : Array Value} {below : List Frame} {meth : Method} {c : Code} {T : State} {H : Heap} {locs : List Loc} {cells slots : Nat}
abbrev vx_CSW (R : Room) (s : State) (args : Array Value) (own : String) (index : Nat) (y : MethodName) (bytes : ByteArray) (maxL : Nat) (ret : Option FieldType) (hh : List (Nat × Nat × Nat × Nat)) (ws : List Cond) (rm : Room) (mc ms n : Nat) : Prop :=
  (rm.cells = mc ∧ rm.slots = ms ∧ rm.frames + 1 ≤ R.frames ∧ 8 + (maxL + 11) + rm.locals ≤ R.locals ∧ (∀ w ∈ ws, ∀ (a' : Array Value) (U : State), s.WarmedH U.vm → w.before a' U = true) ∧ Cond.codeWith y bytes maxL ret hh ∈ ws) ∧
  (Cond.codeWith y bytes maxL ret hh).before args s = true ∧ (Cond.initialized y.cls).before args s = true ∧ (y.cls ≠ "java/lang/invoke/MethodHandle" ∧ y.cls ≠ "java/lang/invoke/VarHandle") ∧
  (∀ sig, parseMethodDescriptor y.desc = some sig → n = sig.parameters.length) ∧ (Cond.methodLink own index y).before args s = true ∧ (Cond.static y).before args s = true
theorem vx_cwSW {own : String} {index maxL mc ms : Nat} {y : MethodName} {bytes : ByteArray} {ret : Option FieldType} {hh : List (Nat × Nat × Nat × Nat)} {Ts ws ws' : List Cond} {rm : Room} (n : Nat) (ht : ∀ w ∈ Ts, w.before args s = true) (hT : GoodIn Ts (va_wsS own index y ws)) (hw : ws = Cond.codeWith y bytes maxL ret hh :: ws') (hrc : rm.cells = mc) (hrs : rm.slots = ms)
    (hd : y.cls ≠ "java/lang/invoke/MethodHandle" ∧ y.cls ≠ "java/lang/invoke/VarHandle" ∧ (parseMethodDescriptor y.desc).map (fun d => d.parameters.length) = some n) (hR : rm.frames + 1 ≤ R.frames ∧ 8 + (maxL + 11) + rm.locals ≤ R.locals) :
    vx_CSW R s args own index y bytes maxL ret hh ws rm mc ms n := by
  have ok : ∀ w ∈ va_wsS own index y ws, w.before args s = true := fun w h => ht w (hT w h).1
  have hG : GoodIn Ts ws := fun w h => hT w (by unfold va_wsS; exact List.mem_append_right _ h)
  have hc : Cond.codeWith y bytes maxL ret hh ∈ ws := by rw [hw]; exact List.mem_cons_self
  refine ⟨⟨hrc, hrs, hR.1, hR.2, pay_in ht hG, hc⟩, ht _ (hG _ hc).1, ok _ (by simp [va_wsS]), ⟨hd.1, hd.2.1⟩, fun sig h => ?_, ok _ (by simp [va_wsS]), ok _ (by simp [va_wsS])⟩
  have h2 := hd.2.2
  rw [h] at h2
  exact (Option.some.inj h2).symm
theorem vx_callSW (X : Stand p l e R s m args below meth c T locs cells slots) (hexec : p.tables.exec = Jvm.exec) {own : String} {index : Nat} {y : MethodName} {bytes : ByteArray} {maxL : Nat} {ret : Option FieldType} {hh : List (Nat × Nat × Nat × Nat)}
    (hown : s.vm.findClass own = some m.cls) (hlink : (Cond.methodLink own index y).before args s = true) (hstat : (Cond.static y).before args s = true) (hinit : (Cond.initialized y.cls).before args s = true)
    (hcode : (Cond.codeWith y bytes maxL ret hh).before args s = true) (hy : y.cls ≠ "java/lang/invoke/MethodHandle" ∧ y.cls ≠ "java/lang/invoke/VarHandle")
    {W9 : Nat} {Pre : Pt → Array Value → Prop} {Post : Pt → Array Value → Option Value → Pt → Prop} (hK : Back l R p e below s args y 3 W9 Pre Post)
    {g : JFrame} (hg : g.method = m) (hsize : g.locals.size = c.maxLocals) {argsL rest : List Value} (hlen : ∀ sig, parseMethodDescriptor y.desc = some sig → argsL.length = sig.parameters.length)
    (hstack : g.stack = argsL.reverse ++ rest) (hW : 2 * g.monitorRoom + (rest.map fun v => v.category).sum ≤ W9) (hdg : decode c.code g.pc = .ok (.invokestatic index, 3))
    (hpre : ∀ vm₁, s.WarmedH vm₁ → Pre ⟨T.setVm vm₁, locs, cells, slots⟩ argsL.toArray) :
    ∃ (v : Option Value) (vm₁ : Vm) (B : Pt), s.WarmedH vm₁ ∧ Stand p l e R s m args below meth c B.U B.locs B.cells B.slots ∧ Post ⟨T.setVm vm₁, locs, cells, slots⟩ argsL.toArray v B ∧
      ∀ target, Steps p.tables e below (B.U.setTop { g with pc := g.pc + 3, stack := v.toList ++ rest }) target → Steps p.tables e below (T.setTop g) target := by
  obtain ⟨mk, methM, cM, hnamed, hmethM, -, -, -, -, -, -, hsigM⟩ := Cond.codeWith_spec hcode
  have hstatic : methM.isStatic = true := Cond.static_spec hnamed hmethM hstat
  obtain ⟨kP, hkP, -⟩ := className_of_methodNamed hnamed
  have hinitP : kP.init = .initialized := Cond.initialized_spec (findClass_of_methodNamed hnamed) hkP hinit
  obtain ⟨vm₁, X₁, hstep₁⟩ := X.invokestatic hexec hown hlink hnamed hmethM hstatic hkP hinitP hy (g := g) hg (argsL := argsL) (rest := rest) (hlen _ hsigM) hstack hdg
  obtain ⟨v, B, X', hpost, hsteps⟩ := hK m meth c ⟨T.setVm vm₁, locs, cells, slots⟩ { g with stack := rest } (.invokestatic index) mk argsL.toArray X₁ hg hsize hdg hW (X₁.named hnamed) (hpre vm₁ X₁.warmed)
  exact ⟨v, vm₁, B, X₁.warmed, X', hpost, fun target h => hstep₁ _ fun acts => by rw [doInvoke_state]; exact hsteps.trans h⟩
theorem vx_runSW {y : MethodName} {bytes cc : ByteArray} {maxL nL mc ms n index : Nat} {ret : Option FieldType} {hh : List (Nat × Nat × Nat × Nat)} {ws : List Cond} {rm : Room} {Pc : Array Value → State → Prop} {Qc : Array Value → State → Outcome → State → Prop} {free : Addr → Prop} {Ts : List Cond} {own : String} {As rest : List Value} {g : JFrame}
    (S : CallFix p m c cc nL s args Ts own) (hM : Met l y ws rm Pc Qc mc ms free) (cw : vx_CSW R s args own index y bytes maxL ret hh ws rm mc ms n) (hp : PreS s H Pc As)
    (hg : g.method = m) (hn : As.length = n) (hsize : g.locals.size = nL) (hstack : g.stack = As.reverse ++ rest) (hW : 2 * g.monitorRoom + (rest.map fun v => v.category).sum ≤ 8) (hdg : decode cc g.pc = .ok (.invokestatic index, 3)) (hf : cells + mc ≤ R.cells ∧ slots + ms ≤ R.slots) :
    va_Run p l e R s m args below meth c H locs cells slots mc ms g rest (Qc As.toArray) (free) := by
  obtain ⟨⟨hrc, hrs, hfr, hlo, hws, hcw⟩, hcode, hini, hy, hlen, hl, hstt⟩ := cw
  have hK : Back l R p e below s args y 3 8 (PreOf R mc ms Pc) (PostOf Qc mc ms free) := va_backW (hh := hh) (bytes := bytes) (maxL := maxL) (ret := ret) hM hp.1 hrc hrs hfr hlo hws hcw (fun a' U hW => word_at hW (Or.inl (by first | rfl | simp [Cond.onTables, Cond.keeps, Cond.steady])) hini)
  obtain ⟨hx, hb, hml, ho, -⟩ := S
  intro T hT X
  obtain ⟨v, vm₁, ⟨U', l2, c2, s2⟩, hW₁, X', ⟨g', mk, t, L, e1, e2, hq, h1, hL, h2, h3⟩, st⟩ := vx_callSW X hx (hh := hh) (bytes := bytes) (maxL := maxL) (ret := ret) ho hl hstt hini hcode hy hK hg (hsize.trans hml.symm) (argsL := As) (rest := rest) (fun sig h => hn.trans (hlen sig h)) hstack hW (by rw [hb]; exact hdg)
    (fun vm₁ hW₁ => ⟨hf.1, hf.2, hp.2 (T.setVm vm₁) hT hW₁⟩)
  dsimp only [Pt.U, Pt.locs, Pt.cells, Pt.slots] at X' e1 e2 h1 h2 h3 st
  subst h1; subst h2; subst h3
  exact ⟨v, (T.setVm vm₁).calling g' mk As.toArray, t, U', L, hT, X', hL, e1, e2, hq, st⟩
/-- not caught here, past rows that name other classes: it goes on to the caller -/
theorem vx_outP {p : Program} {l : Launch} {e : Env} {R : Room} {s : State} {m : MethodId} {args : Array Value} {below : List Frame} {meth : Method} {c : Code} {H : Heap} {locs : List Loc} {cells slots : Nat} {free : Addr → Prop} {ls : Array Slot} {rest : List Value} {Qc : Array Value → State → Outcome → State → Prop} {XC : String → State → State → Prop}
    {pc : Nat} {own E : String} {ce : Cell} {q : Addr} {mc ms : Nat} (hown : s.vm.findClass own = some m.cls) (hlocks : meth.locks = false)
    (hpass : ∀ z ∈ c.exceptionTable.toList, covers z pc = false ∨ (z.catchType ≠ 0 ∧ ∃ nm : String, (Cond.classLink own z.catchType nm).before args s = true ∧ va_Nc E nm s)) (hcell : H[q]? = some ce) (hv : ce.vm = .none) (hcl : s.vm.findClass E = some ce.cls)
    (hx : ∀ t : State, t.heap = H → s.vm.Alike t.vm → XC E s t) (hf : ∀ z ∈ locs, free z.base) (hc : cells ≤ mc) (hs : slots ≤ ms) :
    vx_W p l e R s m args below meth c H locs cells slots (vx_MQ below Qc XC args s mc ms free) (F0 m pc ls rest) q := by
  intro T hT X
  have hpl : e.platform.magicAccessors = ({} : Platform).magicAccessors := by rw [X.admits.platform]
  obtain ⟨vm', hW', X', st⟩ := X.outThrough hlocks q (g := F0 m pc ls rest) rfl rfl rfl (cell := ce) (by rw [hT]; exact hcell) (by rw [hv]; rfl)
    (by obtain ⟨k9, h9, -⟩ := Vm.findClass_spec hcl; exact ⟨k9, h9⟩) (fun z hz => by
      rcases hpass z hz with h | ⟨hz0, nm, hl1, hn1⟩
      · exact Or.inl h
      · obtain ⟨c6, hc6, hcl6⟩ := Cond.classLink_spec hown hl1 e.platform hpl
        obtain ⟨a8, b8, h1, h2, h3⟩ := hn1
        cases Option.some.inj (h1.symm.trans hcl)
        cases Option.some.inj (h2.symm.trans hc6)
        exact Or.inr ⟨hz0, _, hcl6, h3⟩)
  obtain ⟨g₀, hfr⟩ := X'.frames_eq
  have hcell9 : ((T.setVm vm').setFrames (.throwing q :: below)).heap[q]? = some ce := by
    show T.heap[q]? = some ce
    rw [hT]; exact hcell
  have hend : Ended ((T.setVm vm').setFrames (.throwing q :: below)) below (.threw q) := State.frames_setFrames _ (State.cur_lt_of_frames hfr)
  refine ⟨(T.setVm vm').setFrames (.throwing q :: below), ?_, .threw q, X'.here.running, hend, Or.inr ⟨q, rfl, E, ce, locs, hx _ hT (X'.ends _).1.alike, hcell9, hv, hcl, (X'.ends _).1, (X'.ends _).2.mono hc hs, hf⟩⟩
  rw [X.pushThrowing_eq]
  exact st
/-- a thing of a world lies in the heap -/
theorem vx_lt {D : va_G} {cl : List vw_C} {ws : va_W} {H1 : Heap} (h : va_P D cl ws H1) {k : Nat} {q : Nat × va_E} (hk : ws[k]? = some q) : q.1 < H1.size := (h k q hk).lt
end VXS
/-! ===== END ===== -/
/-! ===== BEGIN methods with a table of their own: called by a name, returning or throwing ===== -/
section VXH
/-! vx_backW, vx_callVX, vx_callSX, vx_callVW, vx_runVW, vx_runVX, vx_runSX, vx_ofWH follow the same proofs as their sisters above (Free/Laws.lean, Shelf42/LK1.lean); vx_outP calls Shelf42/NT130.lean (outThrough). -/
section
variable {l : Launch} {R : Room} {p : Program} {e : Env} {below : List Frame} {s : State} {sargs : Array Value} {y : MethodName} {len W9 : Nat}
theorem vx_backW {ws : List Cond} {rm : Room} {Pc : Array Value → State → Prop} {Qc : Array Value → State → Outcome → State → Prop} {XC : String → State → State → Prop} {mc ms : Nat} {free : Addr → Prop} {bytes : ByteArray} {maxL : Nat} {ret : Option FieldType} {hh : List (Nat × Nat × Nat × Nat)}
    (hM : vx_Met l y ws rm Pc Qc XC mc ms free) (hblind : FrameBlind Pc) (hrc : rm.cells = mc) (hrs : rm.slots = ms)
    (hframes : rm.frames + 1 ≤ R.frames) (hlocals : W9 + (maxL + 11) + rm.locals ≤ R.locals)
    (hws : ∀ w ∈ ws, ∀ a' U, s.WarmedH U.vm → w.before a' U = true) (hcode : Cond.codeWith y bytes maxL ret hh ∈ ws) (hinit : ∀ a' U, s.WarmedH U.vm → (Cond.initialized y.cls).before a' U = true) :
    vx_Back l R p e below s sargs y len W9 (PreOf R mc ms Pc) (PostOf Qc mc ms free) (vx_Post XC mc ms free) := by
  intro m meth c A g ig mk a X hg hsize hdg hW hn hp
  have h1 : (headSpec ws rm).pre.before a A.U = true := atoms_intro fun w hw => hws w hw _ _ X.warmed
  have h2 : (Cond.codeWith y bytes maxL ret hh).before a A.U = true := hws _ hcode _ _ X.warmed
  have h3 : (Cond.initialized y.cls).before a A.U = true := hinit _ _ X.warmed
  have h4 : A.cells + (headSpec ws rm).room.cells ≤ R.cells := by rw [show (headSpec ws rm).room.cells = mc from hrc]; exact hp.1
  have h5 : A.slots + (headSpec ws rm).room.slots ≤ R.slots := by rw [show (headSpec ws rm).room.slots = ms from hrs]; exact hp.2.1
  have hPc : Pc a (A.U.calling g mk a) := hblind _ _ _ _ hp.2.2
  obtain ⟨U, Ls, c0, s0⟩ := A
  dsimp only [Pt.U, Pt.locs, Pt.cells, Pt.slots] at h1 h2 h3 h4 h5 X hn hPc ⊢
  obtain ⟨m9, methY, cY, hn9, hmY, hcY, -, hlY, -⟩ := Cond.codeWith_spec h2
  cases Option.some.inj (hn9.symm.trans hn)
  obtain ⟨kY, hkY, -⟩ := className_of_methodNamed hn
  have hinitY : kY.init = .initialized := Cond.initialized_spec (findClass_of_methodNamed hn) hkY h3
  have h : At U g.method c below := by rw [hg]; exact X.here
  have hlocals9 : W9 + (maxL + 11) + (headSpec ws rm).room.locals ≤ R.locals := hlocals
  have happ : (headSpec ws rm).appliesLoose y e.platform (U.calling g mk a) = true :=
    Spec.appliesLoose_calling (g := g) h hdg hn hkY hinitY
      (X.room_calling (g := g) (R' := (headSpec ws rm).room) hsize hmY hcY hframes (by rw [hlY]; omega) h4 h5) h1
  obtain ⟨mid, hmid⟩ := h.above
  have hfr : (U.setTop g).frames = (.java g :: mid) ++ below := by rw [State.frames_setTop' g h.top, hmid]; rfl
  obtain ⟨o, s₂, hsteps, -, hend, hq⟩ := Steps.callFree hM p X.admits X.cas X.clock (acts := []) hfr happ hPc trivial
  have hq' : vx_Q Qc XC mc ms free a (U.calling g mk a) o s₂ := hq
  rw [State.frames_setTop' g h.top] at hend
  obtain ⟨g₀, hg0⟩ := Option.isSome_iff_exists.mp h.top
  obtain ⟨r, hr⟩ := State.topJava?_eq_some.mp hg0
  have hr' : (({ U with heap := s₂.heap, slotsUsed := s₂.slotsUsed } : State).setVm s₂.vm).frames = .java g₀ :: r := hr
  rcases hq' with ⟨hqc, L, hfe, hL⟩ | ⟨q, rfl, E, ce, L, hx, hce, hcv, hcl, hW₂, hsm, hL⟩
  · obtain ⟨⟨v, rfl⟩, hW₂, e2, q2, q3, q4, q5, q6⟩ := id hfe
    have e3 : s₂ = ({ (U.calling g mk a).setFrames s₂.frames with heap := s₂.heap, slotsUsed := s₂.slotsUsed } : State).setVm s₂.vm := by
      have : s₂ = ({ s₂ with vm := (U.calling g mk a).vm } : State).setVm s₂.vm := rfl
      rw [e2] at this
      exact this
    obtain ⟨c₂, i₂, len₂, hc₂, hd₂, hf₂⟩ := hend
    have hW' : U.WarmedH s₂.vm := hW₂
    have hcc : c₂ = c := by
      have h1 : s₂.code? g.method = U.code? g.method := by
        rw [State.code?_eq, State.code?_eq, hW'.alike.method?]
      exact Option.some.inj (hc₂.symm.trans (h1.trans h.code))
    subst hcc
    have hlen : len₂ = len := by rw [hdg] at hd₂; cases hd₂; rfl
    subst hlen
    have hs₂ : s₂ = (({ U with heap := s₂.heap, slotsUsed := s₂.slotsUsed } : State).setVm s₂.vm).setTop { g with pc := g.pc + len₂, stack := v.toList ++ g.stack } := by
      refine e3.trans ?_
      rw [hf₂, State.calling_eq h.top, State.setFrames_setFrames, State.setTop_of_frames _ hr', hr]
      rfl
    have hsame : U.sameButNew ({ U with heap := s₂.heap, slotsUsed := s₂.slotsUsed } : State) L mc ms := by
      refine ⟨?_, q2, q3, q4, q5, q6⟩
      obtain ⟨t, ht, -⟩ := State.frames_cons hr
      show ({ U with heap := s₂.heap, slotsUsed := s₂.slotsUsed } : State) = { U.setFrames U.frames with heap := s₂.heap, slotsUsed := s₂.slotsUsed }
      rw [State.setFrames_self ht]
    subst hg
    refine Or.inl ⟨v, ⟨(({ U with heap := s₂.heap, slotsUsed := s₂.slotsUsed } : State).setVm s₂.vm), Ls ++ L, c0 + mc, s0 + ms⟩,
      ⟨X.admits, X.cas, X.clock, X.frames, X.room, X.hears, X.method, X.code, (X.here.setHeapUsed s₂.heap s₂.slotsUsed).setVm hW'.alike, X.tail, State.WarmedH.trans X.warmed hW', X.limits, X.bytes, X.same.trans (hsame.setVm s.vm)⟩,
      ⟨g, mk, s₂, L, rfl, rfl, hqc, rfl, hL, rfl, rfl⟩, ?_⟩
    show Steps p.tables e below _ ((({ U with heap := s₂.heap, slotsUsed := s₂.slotsUsed } : State).setVm s₂.vm).setTop { g with pc := g.pc + len₂, stack := v.toList ++ g.stack })
    rw [← hs₂]
    exact hsteps
  · obtain ⟨e2, q2, q3, q4, q5, q6⟩ := id hsm
    have e3 : s₂ = ({ (U.calling g mk a).setFrames s₂.frames with heap := s₂.heap, slotsUsed := s₂.slotsUsed } : State).setVm s₂.vm := by
      have : s₂ = ({ s₂ with vm := (U.calling g mk a).vm } : State).setVm s₂.vm := rfl
      rw [e2] at this
      exact this
    have hf₂ : s₂.frames = .throwing q :: .java g :: U.frames.tail := hend
    have hW' : U.WarmedH s₂.vm := hW₂
    have hs₂ : s₂ = ((({ U with heap := s₂.heap, slotsUsed := s₂.slotsUsed } : State).setVm s₂.vm).setTop g).pushFrame (.throwing q) := by
      refine e3.trans ?_
      rw [hf₂, State.calling_eq h.top, State.setFrames_setFrames, State.pushFrame, State.frames_setTop _ hr', State.setTop_of_frames _ hr', State.setFrames_setFrames, hr]
      rfl
    have hsame : U.sameButNew ({ U with heap := s₂.heap, slotsUsed := s₂.slotsUsed } : State) L mc ms := by
      refine ⟨?_, q2, q3, q4, q5, q6⟩
      obtain ⟨t, ht, -⟩ := State.frames_cons hr
      show ({ U with heap := s₂.heap, slotsUsed := s₂.slotsUsed } : State) = { U.setFrames U.frames with heap := s₂.heap, slotsUsed := s₂.slotsUsed }
      rw [State.setFrames_self ht]
    subst hg
    refine Or.inr ⟨q, ⟨(({ U with heap := s₂.heap, slotsUsed := s₂.slotsUsed } : State).setVm s₂.vm), Ls ++ L, c0 + mc, s0 + ms⟩,
      ⟨X.admits, X.cas, X.clock, X.frames, X.room, X.hears, X.method, X.code, (X.here.setHeapUsed s₂.heap s₂.slotsUsed).setVm hW'.alike, X.tail, State.WarmedH.trans X.warmed hW', X.limits, X.bytes, X.same.trans (hsame.setVm s.vm)⟩,
      ⟨g, mk, s₂, L, E, ce, rfl, rfl, hx, hce, hcv, hcl, rfl, hL, rfl, rfl⟩, ?_⟩
    show Steps p.tables e below _ (((({ U with heap := s₂.heap, slotsUsed := s₂.slotsUsed } : State).setVm s₂.vm).setTop g).pushFrame (.throwing q))
    rw [← hs₂]
    exact hsteps
end
variable {p : Program} {l : Launch} {e : Env} {R : Room} {s : State} {m : MethodId} {args : Array Value} {below : List Frame} {meth : Method} {c : Code} {T : State} {H : Heap} {locs : List Loc} {cells slots : Nat}
theorem vx_callVX (X : Stand p l e R s m args below meth c T locs cells slots) (hexec : p.tables.exec = Jvm.exec) {own C : String} {index : Nat} {y : MethodName} {bytes : ByteArray} {maxL : Nat} {ret : Option FieldType} {hh : List (Nat × Nat × Nat × Nat)}
    (hown : s.vm.findClass own = some m.cls) (hlink : (Cond.methodLink own index y).before args s = true) (hinst : (Cond.instanceMethod y).before args s = true) (hsel : (Cond.selects C y y).before args s = true)
    (hcode : (Cond.codeWith y bytes maxL ret hh).before args s = true) (hy : y.cls ≠ "java/lang/invoke/MethodHandle" ∧ y.cls ≠ "java/lang/invoke/VarHandle")
    {W9 : Nat} {Pre : Pt → Array Value → Prop} {Post : Pt → Array Value → Option Value → Pt → Prop} {PostX : Pt → Array Value → Addr → Pt → Prop} (hK : vx_Back l R p e below s args y 3 W9 Pre Post PostX)
    {b : Addr} {cellB : Cell} (hcell : T.heap[b]? = some cellB) (hobj : cellB.vm.isStatics = false) (hcls : s.vm.findClass C = some cellB.cls)
    {g : JFrame} (hg : g.method = m) (hsize : g.locals.size = c.maxLocals) {argsL rest : List Value} (hlen : ∀ sig, parseMethodDescriptor y.desc = some sig → argsL.length = sig.parameters.length)
    (hstack : g.stack = argsL.reverse ++ .ref b :: rest) (hW : 2 * g.monitorRoom + (rest.map fun v => v.category).sum ≤ W9) (hdg : decode c.code g.pc = .ok (.invokevirtual index, 3))
    (hpre : ∀ vm₁, s.WarmedH vm₁ → Pre ⟨T.setVm vm₁, locs, cells, slots⟩ (Value.ref b :: argsL).toArray) :
    (∃ (v : Option Value) (vm₁ : Vm) (B : Pt), s.WarmedH vm₁ ∧ Stand p l e R s m args below meth c B.U B.locs B.cells B.slots ∧ Post ⟨T.setVm vm₁, locs, cells, slots⟩ (Value.ref b :: argsL).toArray v B ∧
      ∀ target, Steps p.tables e below (B.U.setTop { g with pc := g.pc + 3, stack := v.toList ++ rest }) target → Steps p.tables e below (T.setTop g) target) ∨
    (∃ (q : Addr) (vm₁ : Vm) (B : Pt), s.WarmedH vm₁ ∧ Stand p l e R s m args below meth c B.U B.locs B.cells B.slots ∧ PostX ⟨T.setVm vm₁, locs, cells, slots⟩ (Value.ref b :: argsL).toArray q B ∧
      Steps p.tables e below (T.setTop g) ((B.U.setTop { g with stack := rest }).pushFrame (.throwing q))) := by
  obtain ⟨mk, methM, hnamed, hmethM, hstM, habM⟩ := Cond.instanceMethod_spec hinst
  obtain ⟨m8, methM', cM, hn8, hmethM', -, -, -, -, -, -, hsigM⟩ := Cond.codeWith_spec hcode
  cases Option.some.inj (hn8.symm.trans hnamed)
  cases hmethM.symm.trans hmethM'
  obtain ⟨c2, r2, m2, q1, q2, q3, q4, kP, hkP, hkPi⟩ := Cond.selects_spec hsel
  cases hcls.symm.trans q1
  cases (State.methodFound?_of_named hnamed hy).symm.trans q2
  cases hnamed.symm.trans q3
  have hselP : selectMethod e.platform s.vm cellB.cls mk = .method mk := by rw [Launch.admits_selectMethod X.admits]; exact q4
  obtain ⟨vm₁, X₁, hstep₁⟩ := X.invokevirtual hexec hown hlink hnamed hmethM hstM hkP hkPi hy (a := b) (cell := cellB) hcell
    (fun z h => by rw [h] at hobj; cases hobj) hselP hmethM habM hkP hkPi (g := g) hg (argsL := argsL) (rest := rest) (hlen _ hsigM) hstack hdg
  rcases hK m meth c ⟨T.setVm vm₁, locs, cells, slots⟩ { g with stack := rest } (.invokevirtual index) mk (Value.ref b :: argsL).toArray X₁ hg hsize hdg hW (X₁.named hnamed) (hpre vm₁ X₁.warmed) with ⟨v, B, X', hpost, hsteps⟩ | ⟨q, B, X', hpost, hsteps⟩
  · exact Or.inl ⟨v, vm₁, B, X₁.warmed, X', hpost, fun target h => hstep₁ _ fun acts => by rw [doInvoke_state]; exact hsteps.trans h⟩
  · exact Or.inr ⟨q, vm₁, B, X₁.warmed, X', hpost, hstep₁ _ fun acts => by rw [doInvoke_state]; exact hsteps⟩
theorem vx_callSX (X : Stand p l e R s m args below meth c T locs cells slots) (hexec : p.tables.exec = Jvm.exec) {own : String} {index : Nat} {y : MethodName} {bytes : ByteArray} {maxL : Nat} {ret : Option FieldType} {hh : List (Nat × Nat × Nat × Nat)}
    (hown : s.vm.findClass own = some m.cls) (hlink : (Cond.methodLink own index y).before args s = true) (hstat : (Cond.static y).before args s = true) (hinit : (Cond.initialized y.cls).before args s = true)
    (hcode : (Cond.codeWith y bytes maxL ret hh).before args s = true) (hy : y.cls ≠ "java/lang/invoke/MethodHandle" ∧ y.cls ≠ "java/lang/invoke/VarHandle")
    {W9 : Nat} {Pre : Pt → Array Value → Prop} {Post : Pt → Array Value → Option Value → Pt → Prop} {PostX : Pt → Array Value → Addr → Pt → Prop} (hK : vx_Back l R p e below s args y 3 W9 Pre Post PostX)
    {g : JFrame} (hg : g.method = m) (hsize : g.locals.size = c.maxLocals) {argsL rest : List Value} (hlen : ∀ sig, parseMethodDescriptor y.desc = some sig → argsL.length = sig.parameters.length)
    (hstack : g.stack = argsL.reverse ++ rest) (hW : 2 * g.monitorRoom + (rest.map fun v => v.category).sum ≤ W9) (hdg : decode c.code g.pc = .ok (.invokestatic index, 3))
    (hpre : ∀ vm₁, s.WarmedH vm₁ → Pre ⟨T.setVm vm₁, locs, cells, slots⟩ argsL.toArray) :
    (∃ (v : Option Value) (vm₁ : Vm) (B : Pt), s.WarmedH vm₁ ∧ Stand p l e R s m args below meth c B.U B.locs B.cells B.slots ∧ Post ⟨T.setVm vm₁, locs, cells, slots⟩ argsL.toArray v B ∧
      ∀ target, Steps p.tables e below (B.U.setTop { g with pc := g.pc + 3, stack := v.toList ++ rest }) target → Steps p.tables e below (T.setTop g) target) ∨
    (∃ (q : Addr) (vm₁ : Vm) (B : Pt), s.WarmedH vm₁ ∧ Stand p l e R s m args below meth c B.U B.locs B.cells B.slots ∧ PostX ⟨T.setVm vm₁, locs, cells, slots⟩ argsL.toArray q B ∧
      Steps p.tables e below (T.setTop g) ((B.U.setTop { g with stack := rest }).pushFrame (.throwing q))) := by
  obtain ⟨mk, methM, cM, hnamed, hmethM, -, -, -, -, -, -, hsigM⟩ := Cond.codeWith_spec hcode
  have hstatic : methM.isStatic = true := Cond.static_spec hnamed hmethM hstat
  obtain ⟨kP, hkP, -⟩ := className_of_methodNamed hnamed
  have hinitP : kP.init = .initialized := Cond.initialized_spec (findClass_of_methodNamed hnamed) hkP hinit
  obtain ⟨vm₁, X₁, hstep₁⟩ := X.invokestatic hexec hown hlink hnamed hmethM hstatic hkP hinitP hy (g := g) hg (argsL := argsL) (rest := rest) (hlen _ hsigM) hstack hdg
  rcases hK m meth c ⟨T.setVm vm₁, locs, cells, slots⟩ { g with stack := rest } (.invokestatic index) mk argsL.toArray X₁ hg hsize hdg hW (X₁.named hnamed) (hpre vm₁ X₁.warmed) with ⟨v, B, X', hpost, hsteps⟩ | ⟨q, B, X', hpost, hsteps⟩
  · exact Or.inl ⟨v, vm₁, B, X₁.warmed, X', hpost, fun target h => hstep₁ _ fun acts => by rw [doInvoke_state]; exact hsteps.trans h⟩
  · exact Or.inr ⟨q, vm₁, B, X₁.warmed, X', hpost, hstep₁ _ fun acts => by rw [doInvoke_state]; exact hsteps⟩
theorem vx_callVW (X : Stand p l e R s m args below meth c T locs cells slots) (hexec : p.tables.exec = Jvm.exec) {own C : String} {index : Nat} {y : MethodName} {bytes : ByteArray} {maxL : Nat} {ret : Option FieldType} {hh : List (Nat × Nat × Nat × Nat)}
    (hown : s.vm.findClass own = some m.cls) (hlink : (Cond.methodLink own index y).before args s = true) (hinst : (Cond.instanceMethod y).before args s = true) (hsel : (Cond.selects C y y).before args s = true)
    (hcode : (Cond.codeWith y bytes maxL ret hh).before args s = true) (hy : y.cls ≠ "java/lang/invoke/MethodHandle" ∧ y.cls ≠ "java/lang/invoke/VarHandle")
    {W9 : Nat} {Pre : Pt → Array Value → Prop} {Post : Pt → Array Value → Option Value → Pt → Prop} (hK : Back l R p e below s args y 3 W9 Pre Post)
    {b : Addr} {cellB : Cell} (hcell : T.heap[b]? = some cellB) (hobj : cellB.vm.isStatics = false) (hcls : s.vm.findClass C = some cellB.cls)
    {g : JFrame} (hg : g.method = m) (hsize : g.locals.size = c.maxLocals) {argsL rest : List Value} (hlen : ∀ sig, parseMethodDescriptor y.desc = some sig → argsL.length = sig.parameters.length)
    (hstack : g.stack = argsL.reverse ++ .ref b :: rest) (hW : 2 * g.monitorRoom + (rest.map fun v => v.category).sum ≤ W9) (hdg : decode c.code g.pc = .ok (.invokevirtual index, 3))
    (hpre : ∀ vm₁, s.WarmedH vm₁ → Pre ⟨T.setVm vm₁, locs, cells, slots⟩ (Value.ref b :: argsL).toArray) :
    ∃ (v : Option Value) (vm₁ : Vm) (B : Pt), s.WarmedH vm₁ ∧ Stand p l e R s m args below meth c B.U B.locs B.cells B.slots ∧ Post ⟨T.setVm vm₁, locs, cells, slots⟩ (Value.ref b :: argsL).toArray v B ∧
      ∀ target, Steps p.tables e below (B.U.setTop { g with pc := g.pc + 3, stack := v.toList ++ rest }) target → Steps p.tables e below (T.setTop g) target := by
  obtain ⟨mk, methM, hnamed, hmethM, hstM, habM⟩ := Cond.instanceMethod_spec hinst
  obtain ⟨m8, methM', cM, hn8, hmethM', -, -, -, -, -, -, hsigM⟩ := Cond.codeWith_spec hcode
  cases Option.some.inj (hn8.symm.trans hnamed)
  cases hmethM.symm.trans hmethM'
  obtain ⟨c2, r2, m2, q1, q2, q3, q4, kP, hkP, hkPi⟩ := Cond.selects_spec hsel
  cases hcls.symm.trans q1
  cases (State.methodFound?_of_named hnamed hy).symm.trans q2
  cases hnamed.symm.trans q3
  have hselP : selectMethod e.platform s.vm cellB.cls mk = .method mk := by rw [Launch.admits_selectMethod X.admits]; exact q4
  obtain ⟨vm₁, X₁, hstep₁⟩ := X.invokevirtual hexec hown hlink hnamed hmethM hstM hkP hkPi hy (a := b) (cell := cellB) hcell
    (fun z h => by rw [h] at hobj; cases hobj) hselP hmethM habM hkP hkPi (g := g) hg (argsL := argsL) (rest := rest) (hlen _ hsigM) hstack hdg
  obtain ⟨v, B, X', hpost, hsteps⟩ := hK m meth c ⟨T.setVm vm₁, locs, cells, slots⟩ { g with stack := rest } (.invokevirtual index) mk (Value.ref b :: argsL).toArray X₁ hg hsize hdg hW (X₁.named hnamed) (hpre vm₁ X₁.warmed)
  exact ⟨v, vm₁, B, X₁.warmed, X', hpost, fun target h => hstep₁ _ fun acts => by rw [doInvoke_state]; exact hsteps.trans h⟩
abbrev vx_CVW (R : Room) (s : State) (args : Array Value) (own C : String) (index : Nat) (y : MethodName) (bytes : ByteArray) (maxL : Nat) (ret : Option FieldType) (hh : List (Nat × Nat × Nat × Nat)) (ws : List Cond) (rm : Room) (mc ms n : Nat) : Prop :=
  (rm.cells = mc ∧ rm.slots = ms ∧ rm.frames + 1 ≤ R.frames ∧ 8 + (maxL + 11) + rm.locals ≤ R.locals ∧ (∀ w ∈ ws, ∀ (a' : Array Value) (U : State), s.WarmedH U.vm → w.before a' U = true) ∧ Cond.codeWith y bytes maxL ret hh ∈ ws) ∧
  (Cond.codeWith y bytes maxL ret hh).before args s = true ∧ (Cond.initialized y.cls).before args s = true ∧ (y.cls ≠ "java/lang/invoke/MethodHandle" ∧ y.cls ≠ "java/lang/invoke/VarHandle") ∧
  (∀ sig, parseMethodDescriptor y.desc = some sig → n = sig.parameters.length) ∧ (Cond.methodLink own index y).before args s = true ∧ (Cond.instanceMethod y).before args s = true ∧ (Cond.selects C y y).before args s = true
theorem vx_cwVW {own C : String} {index maxL mc ms : Nat} {y : MethodName} {bytes : ByteArray} {ret : Option FieldType} {hh : List (Nat × Nat × Nat × Nat)} {Ts ws ws' : List Cond} {rm : Room} (n : Nat) (ht : ∀ w ∈ Ts, w.before args s = true) (hT : GoodIn Ts (wsV own index C y ws)) (hw : ws = Cond.codeWith y bytes maxL ret hh :: ws') (hrc : rm.cells = mc) (hrs : rm.slots = ms)
    (hd : y.cls = C ∧ y.cls ≠ "java/lang/invoke/MethodHandle" ∧ y.cls ≠ "java/lang/invoke/VarHandle" ∧ (parseMethodDescriptor y.desc).map (fun d => d.parameters.length) = some n) (hR : rm.frames + 1 ≤ R.frames ∧ 8 + (maxL + 11) + rm.locals ≤ R.locals) :
    vx_CVW R s args own C index y bytes maxL ret hh ws rm mc ms n := by
  obtain ⟨hC, hd⟩ := hd
  subst hC
  have ok : ∀ w ∈ wsV own index y.cls y ws, w.before args s = true := fun w h => ht w (hT w h).1
  have hG : GoodIn Ts ws := fun w h => hT w (by unfold wsV; exact List.mem_append_right _ h)
  have hc : Cond.codeWith y bytes maxL ret hh ∈ ws := by rw [hw]; exact List.mem_cons_self
  refine ⟨⟨hrc, hrs, hR.1, hR.2, pay_in ht hG, hc⟩, ht _ (hG _ hc).1, ok _ (by simp [wsV]), ⟨hd.1, hd.2.1⟩, fun sig h => ?_, ok _ (by simp [wsV]), ok _ (by simp [wsV]), ok _ (by simp [wsV])⟩
  have h2 := hd.2.2
  rw [h] at h2
  exact (Option.some.inj h2).symm
theorem vx_runVW {y : MethodName} {bytes cc : ByteArray} {maxL nL mc ms n index : Nat} {ret : Option FieldType} {hh : List (Nat × Nat × Nat × Nat)} {ws : List Cond} {rm : Room} {Pc : Array Value → State → Prop} {Qc : Array Value → State → Outcome → State → Prop} {free : Addr → Prop} {Ts : List Cond} {own C : String} {b : Addr} {As rest : List Value} {g : JFrame}
    (S : CallFix p m c cc nL s args Ts own) (hM : Met l y ws rm Pc Qc mc ms free) (cw : vx_CVW R s args own C index y bytes maxL ret hh ws rm mc ms n) (hp : PreV s H C b Pc As)
    (hg : g.method = m) (hn : As.length = n) (hsize : g.locals.size = nL) (hstack : g.stack = As.reverse ++ .ref b :: rest) (hW : 2 * g.monitorRoom + (rest.map fun v => v.category).sum ≤ 8) (hdg : decode cc g.pc = .ok (.invokevirtual index, 3)) (hf : cells + mc ≤ R.cells ∧ slots + ms ≤ R.slots) :
    va_Run p l e R s m args below meth c H locs cells slots mc ms g rest (Qc (Value.ref b :: As).toArray) free := by
  obtain ⟨⟨hrc, hrs, hfr, hlo, hws, hcw⟩, hcode, hini, hy, hlen, hl, hin, hse⟩ := cw
  have hK : Back l R p e below s args y 3 8 (PreOf R mc ms Pc) (PostOf Qc mc ms free) := va_backW (hh := hh) (bytes := bytes) (maxL := maxL) (ret := ret) hM hp.1 hrc hrs hfr hlo hws hcw (fun a' U hW => word_at hW (Or.inl (by first | rfl | simp [Cond.onTables, Cond.keeps, Cond.steady])) hini)
  obtain ⟨hx, hb, hml, ho, -⟩ := S
  obtain ⟨-, ⟨cellB, hcB, hoB, hclB⟩, hPc⟩ := hp
  intro T hT X
  obtain ⟨v, vm₁, ⟨U', l2, c2, s2⟩, hW₁, X', ⟨g', mk, t, L, e1, e2, hq, h1, hL, h2, h3⟩, st⟩ := vx_callVW X hx (C := C) (hh := hh) (bytes := bytes) (maxL := maxL) (ret := ret) ho hl hin hse hcode hy hK (by rw [hT]; exact hcB) hoB hclB hg (hsize.trans hml.symm) (argsL := As) (rest := rest) (fun sig h => hn.trans (hlen sig h)) hstack hW (by rw [hb]; exact hdg)
    (fun vm₁ hW₁ => ⟨hf.1, hf.2, hPc (T.setVm vm₁) hT hW₁⟩)
  dsimp only [Pt.U, Pt.locs, Pt.cells, Pt.slots] at X' e1 e2 h1 h2 h3 st
  subst h1; subst h2; subst h3
  exact ⟨v, (T.setVm vm₁).calling g' mk (Value.ref b :: As).toArray, t, U', L, hT, X', hL, e1, e2, hq, st⟩
section
variable {y : MethodName} {bytes cc : ByteArray} {maxL nL mc ms n index : Nat} {ret : Option FieldType} {ws : List Cond} {rm : Room} {Pc : Array Value → State → Prop} {Qc : Array Value → State → Outcome → State → Prop} {XC : String → State → State → Prop} {free : Addr → Prop} {Ts : List Cond} {own C : String} {b : Addr} {As rest : List Value} {g : JFrame}
theorem vx_runVX {hh : List (Nat × Nat × Nat × Nat)} (S : CallFix p m c cc nL s args Ts own) (hM : vx_Met l y ws rm Pc Qc XC mc ms free) (cw : vx_CVW R s args own C index y bytes maxL ret hh ws rm mc ms n) (hp : PreV s H C b Pc As)
    (hg : g.method = m) (hn : As.length = n) (hsize : g.locals.size = nL) (hstack : g.stack = As.reverse ++ .ref b :: rest) (hW : 2 * g.monitorRoom + (rest.map fun v => v.category).sum ≤ 8) (hdg : decode cc g.pc = .ok (.invokevirtual index, 3)) (hf : cells + mc ≤ R.cells ∧ slots + ms ≤ R.slots) :
    vx_Run p l e R s m args below meth c H locs cells slots mc ms g rest (Qc (Value.ref b :: As).toArray) XC free := by
  obtain ⟨⟨hrc, hrs, hfr, hlo, hws, hcw⟩, hcode, hini, hy, hlen, hl, hin, hse⟩ := cw
  have hK : vx_Back l R p e below s args y 3 8 (PreOf R mc ms Pc) (PostOf Qc mc ms free) (vx_Post XC mc ms free) := vx_backW (hh := hh) (bytes := bytes) (maxL := maxL) (ret := ret) hM hp.1 hrc hrs hfr hlo hws hcw (fun a' U hW => word_at hW (Or.inl (by first | rfl | simp [Cond.onTables, Cond.keeps, Cond.steady])) hini)
  obtain ⟨hx, hb, hml, ho, -⟩ := S
  obtain ⟨-, ⟨cellB, hcB, hoB, hclB⟩, hPc⟩ := hp
  intro T hT X
  rcases vx_callVX X hx (C := C) (hh := hh) (bytes := bytes) (maxL := maxL) (ret := ret) ho hl hin hse hcode hy hK (by rw [hT]; exact hcB) hoB hclB hg (hsize.trans hml.symm) (argsL := As) (rest := rest) (fun sig h => hn.trans (hlen sig h)) hstack hW (by rw [hb]; exact hdg)
    (fun vm₁ hW₁ => ⟨hf.1, hf.2, hPc (T.setVm vm₁) hT hW₁⟩) with ⟨v, vm₁, ⟨U', l2, c2, s2⟩, hW₁, X', ⟨g', mk, t, L, e1, e2, hq, h1, hL, h2, h3⟩, st⟩ | ⟨q, vm₁, ⟨U', l2, c2, s2⟩, hW₁, X', ⟨g', mk, t, L, E, ce, e1, e2, hq, hce, hcv, hcl, h1, hL, h2, h3⟩, st⟩
  · dsimp only [Pt.U, Pt.locs, Pt.cells, Pt.slots] at X' e1 e2 h1 h2 h3 st
    subst h1; subst h2; subst h3
    exact Or.inl ⟨v, (T.setVm vm₁).calling g' mk (Value.ref b :: As).toArray, t, U', L, hT, X', hL, e1, e2, hq, st⟩
  · dsimp only [Pt.U, Pt.locs, Pt.cells, Pt.slots] at X' e1 e2 h1 h2 h3 st hcl
    subst h1; subst h2; subst h3
    exact Or.inr ⟨q, (T.setVm vm₁).calling g' mk (Value.ref b :: As).toArray, t, U', L, E, ce, hT, X', hL, e1, e2, hq, hce, hcv, vx_cls hW₁ hcl, st⟩
theorem vx_runSX {hh : List (Nat × Nat × Nat × Nat)} (S : CallFix p m c cc nL s args Ts own) (hM : vx_Met l y ws rm Pc Qc XC mc ms free) (cw : vx_CSW R s args own index y bytes maxL ret hh ws rm mc ms n) (hp : PreS s H Pc As)
    (hg : g.method = m) (hn : As.length = n) (hsize : g.locals.size = nL) (hstack : g.stack = As.reverse ++ rest) (hW : 2 * g.monitorRoom + (rest.map fun v => v.category).sum ≤ 8) (hdg : decode cc g.pc = .ok (.invokestatic index, 3)) (hf : cells + mc ≤ R.cells ∧ slots + ms ≤ R.slots) :
    vx_Run p l e R s m args below meth c H locs cells slots mc ms g rest (Qc As.toArray) XC free := by
  obtain ⟨⟨hrc, hrs, hfr, hlo, hws, hcw⟩, hcode, hini, hy, hlen, hl, hstt⟩ := cw
  have hK : vx_Back l R p e below s args y 3 8 (PreOf R mc ms Pc) (PostOf Qc mc ms free) (vx_Post XC mc ms free) := vx_backW (hh := hh) (bytes := bytes) (maxL := maxL) (ret := ret) hM hp.1 hrc hrs hfr hlo hws hcw (fun a' U hW => word_at hW (Or.inl (by first | rfl | simp [Cond.onTables, Cond.keeps, Cond.steady])) hini)
  obtain ⟨hx, hb, hml, ho, -⟩ := S
  intro T hT X
  rcases vx_callSX X hx (hh := hh) (bytes := bytes) (maxL := maxL) (ret := ret) ho hl hstt hini hcode hy hK hg (hsize.trans hml.symm) (argsL := As) (rest := rest) (fun sig h => hn.trans (hlen sig h)) hstack hW (by rw [hb]; exact hdg)
    (fun vm₁ hW₁ => ⟨hf.1, hf.2, hp.2 (T.setVm vm₁) hT hW₁⟩) with ⟨v, vm₁, ⟨U', l2, c2, s2⟩, hW₁, X', ⟨g', mk, t, L, e1, e2, hq, h1, hL, h2, h3⟩, st⟩ | ⟨q, vm₁, ⟨U', l2, c2, s2⟩, hW₁, X', ⟨g', mk, t, L, E, ce, e1, e2, hq, hce, hcv, hcl, h1, hL, h2, h3⟩, st⟩
  · dsimp only [Pt.U, Pt.locs, Pt.cells, Pt.slots] at X' e1 e2 h1 h2 h3 st
    subst h1; subst h2; subst h3
    exact Or.inl ⟨v, (T.setVm vm₁).calling g' mk As.toArray, t, U', L, hT, X', hL, e1, e2, hq, st⟩
  · dsimp only [Pt.U, Pt.locs, Pt.cells, Pt.slots] at X' e1 e2 h1 h2 h3 st hcl
    subst h1; subst h2; subst h3
    exact Or.inr ⟨q, (T.setVm vm₁).calling g' mk As.toArray, t, U', L, E, ce, hT, X', hL, e1, e2, hq, hce, hcv, vx_cls hW₁ hcl, st⟩
end
end VXH
theorem vx_ofWH {l : Launch} {y : MethodName} {ws ws' : List Cond} {rm : Room} {Pc : Array Value → State → Prop} {Qc : Array Value → State → Outcome → State → Prop} {XC : String → State → State → Prop} {mc ms : Nat} {free : Addr → Prop} {cc : ByteArray} {maxL : Nat} {ret : Option FieldType} {hh : List (Nat × Nat × Nat × Nat)}
    (hy : plainName y.cls = true) (hw : ws = Cond.codeWith y cc maxL ret hh :: ws')
    (body : ∀ p e s m args below meth c s₁, BodyLoose p l y (headSpec ws rm) cc maxL ret e s m args below meth c s₁ → c.maxLocals = maxL → Pc args s →
      W p l e (headSpec ws rm).room s m args below meth c s.heap [] 0 0 (vx_MQ below Qc XC args s mc ms free) (entryFrame m args maxL)) : vx_Met l y ws rm Pc Qc XC mc ms free := by
  refine MetFree.of_bodyS (code := cc) (maxLocals := maxL) (ret := ret) hy ?_ ?_
  · intro args s m h hn
    obtain ⟨m9, meth, c, hn9, h1, h2, h3, h4, -, h5, h6, -⟩ := Cond.codeWith_spec (atoms_spec (ws := ws) h _ (by rw [hw]; exact List.mem_cons_self))
    cases hn.symm.trans hn9
    exact ⟨meth, c, h1, h2, h3, h4, h5, h6⟩
  · intro p e s m args below meth c s₁ B hml hP _
    have hh0 : s₁.heap = s.heap := by rw [B.state]; rfl
    obtain ⟨t, a1, o, b1, b2, b3⟩ := body p e s m args below meth c s₁ B hml hP s₁ hh0 (Stand.of_body B)
    exact ⟨t, o, a1, b1, b2, b3⟩
/-! ===== END ===== -/
end
section
/-! ===== BEGIN printed: names, fields, word lists, decode rows ===== -/
def RX0 : String := "OutcastBench$CacheAndBench"
def TX0 : u_T := fun k => match k with
  | 0 => ("OutcastBench$CacheAndBench", "setCount", "I", false)
  | 1 => ("OutcastBench$CacheAndBench", "placeCount", "I", false)
  | 2 => ("OutcastBench$CacheAndBench", "lines", "[I", true)
  | 3 => ("OutcastBench$CacheAndBench", "bench", "[I", true)
  | 4 => ("OutcastBench$CacheAndBench", "seated", "I", false)
  | 5 => ("OutcastBench$CacheAndBench", "dirtyLines", "[Z", true)
  | 6 => ("OutcastBench$CacheAndBench", "hitCount", "I", false)
  | 7 => ("OutcastBench$CacheAndBench", "swapCount", "I", false)
  | 8 => ("OutcastBench$CacheAndBench", "missCount", "I", false)
  | 9 => ("OutcastBench$CacheAndBench", "homecomingCount", "I", false)
  | _ => ("OutcastBench$CacheAndBench", "costSoFar", "I", false)
def tyX0 : Nat → FieldType := fun k => match k with
  | 0 => .int
  | 1 => .int
  | 2 => .array .int
  | 3 => .array .int
  | 4 => .int
  | 5 => .array .boolean
  | 6 => .int
  | 7 => .int
  | 8 => .int
  | 9 => .int
  | _ => .int
abbrev wsX00 : List Cond := u_ws RX0 TX0 11
theorem nmX0 : ∀ a, a < 11 → ∀ b, b < 11 → a ≠ b → (TX0 a).2.1 ≠ (TX0 b).2.1 := by decide +kernel
theorem tyX0_ok : ∀ k, k < 11 → parseFieldDescriptor (TX0 k).2.2.1 = some (tyX0 k) := by decide +kernel
abbrev cX0_init : ByteArray := prog_2_method_1_code
def yX0_init : MethodName := ⟨RX0, "<init>", "(II)V"⟩
abbrev cX0_startEmpty : ByteArray := prog_2_method_2_code
def yX0_startEmpty : MethodName := ⟨RX0, "startEmpty", "(II)V"⟩
abbrev cX0_access : ByteArray := prog_2_method_3_code
def yX0_access : MethodName := ⟨RX0, "access", "(IZ)V"⟩
abbrev cX0_throwOut : ByteArray := prog_2_method_4_code
def yX0_throwOut : MethodName := ⟨RX0, "throwOut", "(I)V"⟩
abbrev cX0_leaveBench : ByteArray := prog_2_method_5_code
def yX0_leaveBench : MethodName := ⟨RX0, "leaveBench", "(I)V"⟩
abbrev cX0_bringAllHome : ByteArray := prog_2_method_6_code
def yX0_bringAllHome : MethodName := ⟨RX0, "bringAllHome", "()I"⟩
abbrev cX0_bringHomeIfDirty : ByteArray := prog_2_method_7_code
def yX0_bringHomeIfDirty : MethodName := ⟨RX0, "bringHomeIfDirty", "(I)V"⟩
abbrev cX0_countLines : ByteArray := prog_2_method_8_code
def yX0_countLines : MethodName := ⟨RX0, "countLines", "()I"⟩
abbrev cX0_countDirty : ByteArray := prog_2_method_9_code
def yX0_countDirty : MethodName := ⟨RX0, "countDirty", "()I"⟩
abbrev cX0_whereIs : ByteArray := prog_2_method_10_code
def yX0_whereIs : MethodName := ⟨RX0, "whereIs", "(I)I"⟩
abbrev cX0_setOf : ByteArray := prog_2_method_11_code
def yX0_setOf : MethodName := ⟨RX0, "setOf", "(I)I"⟩
abbrev cX0_seatOf : ByteArray := prog_2_method_12_code
def yX0_seatOf : MethodName := ⟨RX0, "seatOf", "(I)I"⟩
def RX1 : String := "OutcastBench$LastAccesses"
def TX1 : u_T := fun k => match k with
  | 0 => ("OutcastBench$LastAccesses", "lines", "[I", true)
  | 1 => ("OutcastBench$LastAccesses", "writes", "[Z", true)
  | 2 => ("OutcastBench$LastAccesses", "count", "I", false)
  | _ => ("OutcastBench$LastAccesses", "next", "I", false)
def tyX1 : Nat → FieldType := fun k => match k with
  | 0 => .array .int
  | 1 => .array .boolean
  | 2 => .int
  | _ => .int
abbrev wsX10 : List Cond := u_ws RX1 TX1 4
theorem nmX1 : ∀ a, a < 4 → ∀ b, b < 4 → a ≠ b → (TX1 a).2.1 ≠ (TX1 b).2.1 := by decide +kernel
theorem tyX1_ok : ∀ k, k < 4 → parseFieldDescriptor (TX1 k).2.2.1 = some (tyX1 k) := by decide +kernel
abbrev cX1_init : ByteArray := prog_3_method_1_code
def yX1_init : MethodName := ⟨RX1, "<init>", "()V"⟩
abbrev cX1_add : ByteArray := prog_3_method_2_code
def yX1_add : MethodName := ⟨RX1, "add", "(IZ)V"⟩
abbrev cX1_slotOf : ByteArray := prog_3_method_3_code
def yX1_slotOf : MethodName := ⟨RX1, "slotOf", "(I)I"⟩
def RX2 : String := "OutcastBench"
def TX2 : u_T := fun k => match k with
  | 0 => ("OutcastBench", "written", "[I", true)
  | 1 => ("OutcastBench", "home", "[I", true)
  | 2 => ("OutcastBench", "actual", "LOutcastBench$CacheAndBench;", true)
  | 3 => ("OutcastBench", "trial", "LOutcastBench$CacheAndBench;", true)
  | _ => ("OutcastBench", "last", "LOutcastBench$LastAccesses;", true)
def tyX2 : Nat → FieldType := fun k => match k with
  | 0 => .array .int
  | 1 => .array .int
  | 2 => .object "OutcastBench$CacheAndBench"
  | 3 => .object "OutcastBench$CacheAndBench"
  | _ => .object "OutcastBench$LastAccesses"
abbrev wsX20 : List Cond := u_ws RX2 TX2 5
theorem nmX2 : ∀ a, a < 5 → ∀ b, b < 5 → a ≠ b → (TX2 a).2.1 ≠ (TX2 b).2.1 := by decide +kernel
theorem tyX2_ok : ∀ k, k < 5 → parseFieldDescriptor (TX2 k).2.2.1 = some (tyX2 k) := by decide +kernel
abbrev cX2_init : ByteArray := prog_1_method_1_code
def yX2_init : MethodName := ⟨RX2, "<init>", "()V"⟩
abbrev cX2_read : ByteArray := prog_1_method_2_code
def yX2_read : MethodName := ⟨RX2, "read", "(I)I"⟩
abbrev cX2_write : ByteArray := prog_1_method_3_code
def yX2_write : MethodName := ⟨RX2, "write", "(II)I"⟩
abbrev cX2_walk : ByteArray := prog_1_method_4_code
def yX2_walk : MethodName := ⟨RX2, "walk", "(III)I"⟩
abbrev cX2_bringHome : ByteArray := prog_1_method_5_code
def yX2_bringHome : MethodName := ⟨RX2, "bringHome", "()I"⟩
abbrev cX2_build : ByteArray := prog_1_method_6_code
def yX2_build : MethodName := ⟨RX2, "build", "(II)I"⟩
abbrev cX2_cast : ByteArray := prog_1_method_7_code
def yX2_cast : MethodName := ⟨RX2, "cast", "(I)I"⟩
abbrev cX2_sets : ByteArray := prog_1_method_8_code
def yX2_sets : MethodName := ⟨RX2, "sets", "()I"⟩
abbrev cX2_places : ByteArray := prog_1_method_9_code
def yX2_places : MethodName := ⟨RX2, "places", "()I"⟩
abbrev cX2_lineIn : ByteArray := prog_1_method_10_code
def yX2_lineIn : MethodName := ⟨RX2, "lineIn", "(I)I"⟩
abbrev cX2_sitting : ByteArray := prog_1_method_11_code
def yX2_sitting : MethodName := ⟨RX2, "sitting", "()I"⟩
abbrev cX2_lineOnBench : ByteArray := prog_1_method_12_code
def yX2_lineOnBench : MethodName := ⟨RX2, "lineOnBench", "(I)I"⟩
abbrev cX2_placeOf : ByteArray := prog_1_method_13_code
def yX2_placeOf : MethodName := ⟨RX2, "placeOf", "(I)I"⟩
abbrev cX2_isDirty : ByteArray := prog_1_method_14_code
def yX2_isDirty : MethodName := ⟨RX2, "isDirty", "(I)Z"⟩
abbrev cX2_dirty : ByteArray := prog_1_method_15_code
def yX2_dirty : MethodName := ⟨RX2, "dirty", "()I"⟩
abbrev cX2_atHome : ByteArray := prog_1_method_16_code
def yX2_atHome : MethodName := ⟨RX2, "atHome", "(I)I"⟩
abbrev cX2_peek : ByteArray := prog_1_method_17_code
def yX2_peek : MethodName := ⟨RX2, "peek", "(I)I"⟩
abbrev cX2_hits : ByteArray := prog_1_method_18_code
def yX2_hits : MethodName := ⟨RX2, "hits", "()I"⟩
abbrev cX2_swaps : ByteArray := prog_1_method_19_code
def yX2_swaps : MethodName := ⟨RX2, "swaps", "()I"⟩
abbrev cX2_misses : ByteArray := prog_1_method_20_code
def yX2_misses : MethodName := ⟨RX2, "misses", "()I"⟩
abbrev cX2_homecomings : ByteArray := prog_1_method_21_code
def yX2_homecomings : MethodName := ⟨RX2, "homecomings", "()I"⟩
abbrev cX2_cost : ByteArray := prog_1_method_22_code
def yX2_cost : MethodName := ⟨RX2, "cost", "()I"⟩
abbrev cX2_wouldCost : ByteArray := prog_1_method_23_code
def yX2_wouldCost : MethodName := ⟨RX2, "wouldCost", "(II)I"⟩
abbrev cX2_bestPlaces : ByteArray := prog_1_method_24_code
def yX2_bestPlaces : MethodName := ⟨RX2, "bestPlaces", "()I"⟩
abbrev cX2_ask : ByteArray := prog_1_method_25_code
def yX2_ask : MethodName := ⟨RX2, "ask", "(IZ)V"⟩
abbrev cX2_keepHomeWords : ByteArray := prog_1_method_26_code
def yX2_keepHomeWords : MethodName := ⟨RX2, "keepHomeWords", "(I)V"⟩
abbrev cX2_costOfTrial : ByteArray := prog_1_method_27_code
def yX2_costOfTrial : MethodName := ⟨RX2, "costOfTrial", "(II)I"⟩
abbrev cX2_lineOf : ByteArray := prog_1_method_28_code
def yX2_lineOf : MethodName := ⟨RX2, "lineOf", "(I)I"⟩
abbrev cX2_requireWord : ByteArray := prog_1_method_29_code
def yX2_requireWord : MethodName := ⟨RX2, "requireWord", "(I)V"⟩
abbrev cX2_requireLine : ByteArray := prog_1_method_30_code
def yX2_requireLine : MethodName := ⟨RX2, "requireLine", "(I)V"⟩
abbrev cX2_requireSet : ByteArray := prog_1_method_31_code
def yX2_requireSet : MethodName := ⟨RX2, "requireSet", "(I)V"⟩
abbrev cX2_requireSize : ByteArray := prog_1_method_32_code
def yX2_requireSize : MethodName := ⟨RX2, "requireSize", "(II)V"⟩
def RX3 : String := "OutcastBenchModel"
def TX3 : u_T := fun k => match k with
  | 0 => ("OutcastBenchModel", "written", "[I", true)
  | 1 => ("OutcastBenchModel", "home", "[I", true)
  | 2 => ("OutcastBenchModel", "sets", "[I", true)
  | 3 => ("OutcastBenchModel", "places", "[I", true)
  | 4 => ("OutcastBenchModel", "lineOf", "[I", true)
  | 5 => ("OutcastBenchModel", "bench", "[I", true)
  | 6 => ("OutcastBenchModel", "many", "[I", true)
  | 7 => ("OutcastBenchModel", "isDirty", "[I", true)
  | 8 => ("OutcastBenchModel", "cost", "[I", true)
  | 9 => ("OutcastBenchModel", "hits", "I", false)
  | 10 => ("OutcastBenchModel", "swaps", "I", false)
  | 11 => ("OutcastBenchModel", "misses", "I", false)
  | 12 => ("OutcastBenchModel", "homecomings", "I", false)
  | 13 => ("OutcastBenchModel", "asked", "[I", true)
  | 14 => ("OutcastBenchModel", "askedMany", "I", false)
  | _ => ("OutcastBenchModel", "thrown", "I", false)
def tyX3 : Nat → FieldType := fun k => match k with
  | 0 => .array .int
  | 1 => .array .int
  | 2 => .array .int
  | 3 => .array .int
  | 4 => .array .int
  | 5 => .array .int
  | 6 => .array .int
  | 7 => .array .int
  | 8 => .array .int
  | 9 => .int
  | 10 => .int
  | 11 => .int
  | 12 => .int
  | 13 => .array .int
  | 14 => .int
  | _ => .int
abbrev wsX30 : List Cond := u_ws RX3 TX3 16
theorem nmX3 : ∀ a, a < 16 → ∀ b, b < 16 → a ≠ b → (TX3 a).2.1 ≠ (TX3 b).2.1 := by decide +kernel
theorem tyX3_ok : ∀ k, k < 16 → parseFieldDescriptor (TX3 k).2.2.1 = some (tyX3 k) := by decide +kernel
abbrev cX3_init : ByteArray := prog_5_method_1_code
def yX3_init : MethodName := ⟨RX3, "<init>", "()V"⟩
abbrev cX3_thrown : ByteArray := prog_5_method_2_code
def yX3_thrown : MethodName := ⟨RX3, "thrown", "()I"⟩
abbrev cX3_isWord : ByteArray := prog_5_method_3_code
def yX3_isWord : MethodName := ⟨RX3, "isWord", "(I)Z"⟩
abbrev cX3_isSize : ByteArray := prog_5_method_4_code
def yX3_isSize : MethodName := ⟨RX3, "isSize", "(II)Z"⟩
abbrev cX3_empties : ByteArray := prog_5_method_5_code
def yX3_empties : MethodName := ⟨RX3, "empties", "(I)V"⟩
abbrev cX3_comesHome : ByteArray := prog_5_method_6_code
def yX3_comesHome : MethodName := ⟨RX3, "comesHome", "(II)V"⟩
abbrev cX3_goesHome : ByteArray := prog_5_method_7_code
def yX3_goesHome : MethodName := ⟨RX3, "goesHome", "(II)V"⟩
abbrev cX3_seat : ByteArray := prog_5_method_8_code
def yX3_seat : MethodName := ⟨RX3, "seat", "(II)I"⟩
abbrev cX3_leavesBench : ByteArray := prog_5_method_9_code
def yX3_leavesBench : MethodName := ⟨RX3, "leavesBench", "(II)V"⟩
abbrev cX3_sits : ByteArray := prog_5_method_10_code
def yX3_sits : MethodName := ⟨RX3, "sits", "(II)V"⟩
abbrev cX3_throwsOut : ByteArray := prog_5_method_11_code
def yX3_throwsOut : MethodName := ⟨RX3, "throwsOut", "(II)V"⟩
abbrev cX3_access : ByteArray := prog_5_method_12_code
def yX3_access : MethodName := ⟨RX3, "access", "(II)I"⟩
abbrev cX3_asks : ByteArray := prog_5_method_13_code
def yX3_asks : MethodName := ⟨RX3, "asks", "(IZ)V"⟩
abbrev cX3_read : ByteArray := prog_5_method_14_code
def yX3_read : MethodName := ⟨RX3, "read", "(I)I"⟩
abbrev cX3_write : ByteArray := prog_5_method_15_code
def yX3_write : MethodName := ⟨RX3, "write", "(II)I"⟩
abbrev cX3_walk : ByteArray := prog_5_method_16_code
def yX3_walk : MethodName := ⟨RX3, "walk", "(III)I"⟩
abbrev cX3_bringsHome : ByteArray := prog_5_method_17_code
def yX3_bringsHome : MethodName := ⟨RX3, "bringsHome", "()I"⟩
abbrev cX3_bringHome : ByteArray := prog_5_method_18_code
def yX3_bringHome : MethodName := ⟨RX3, "bringHome", "()I"⟩
abbrev cX3_inCache : ByteArray := prog_5_method_19_code
def yX3_inCache : MethodName := ⟨RX3, "inCache", "()I"⟩
abbrev cX3_build : ByteArray := prog_5_method_20_code
def yX3_build : MethodName := ⟨RX3, "build", "(II)I"⟩
abbrev cX3_isSet : ByteArray := prog_5_method_21_code
def yX3_isSet : MethodName := ⟨RX3, "isSet", "(I)Z"⟩
abbrev cX3_cast : ByteArray := prog_5_method_22_code
def yX3_cast : MethodName := ⟨RX3, "cast", "(I)I"⟩
abbrev cX3_sets : ByteArray := prog_5_method_23_code
def yX3_sets : MethodName := ⟨RX3, "sets", "()I"⟩
abbrev cX3_places : ByteArray := prog_5_method_24_code
def yX3_places : MethodName := ⟨RX3, "places", "()I"⟩
abbrev cX3_lineIn : ByteArray := prog_5_method_25_code
def yX3_lineIn : MethodName := ⟨RX3, "lineIn", "(I)I"⟩
abbrev cX3_sitting : ByteArray := prog_5_method_26_code
def yX3_sitting : MethodName := ⟨RX3, "sitting", "()I"⟩
abbrev cX3_lineOnBench : ByteArray := prog_5_method_27_code
def yX3_lineOnBench : MethodName := ⟨RX3, "lineOnBench", "(I)I"⟩
abbrev cX3_isLine : ByteArray := prog_5_method_28_code
def yX3_isLine : MethodName := ⟨RX3, "isLine", "(I)Z"⟩
abbrev cX3_placeOf : ByteArray := prog_5_method_29_code
def yX3_placeOf : MethodName := ⟨RX3, "placeOf", "(I)I"⟩
abbrev cX3_isDirty : ByteArray := prog_5_method_30_code
def yX3_isDirty : MethodName := ⟨RX3, "isDirty", "(I)Z"⟩
abbrev cX3_dirty : ByteArray := prog_5_method_31_code
def yX3_dirty : MethodName := ⟨RX3, "dirty", "()I"⟩
abbrev cX3_atHome : ByteArray := prog_5_method_32_code
def yX3_atHome : MethodName := ⟨RX3, "atHome", "(I)I"⟩
abbrev cX3_peek : ByteArray := prog_5_method_33_code
def yX3_peek : MethodName := ⟨RX3, "peek", "(I)I"⟩
abbrev cX3_hits : ByteArray := prog_5_method_34_code
def yX3_hits : MethodName := ⟨RX3, "hits", "()I"⟩
abbrev cX3_swaps : ByteArray := prog_5_method_35_code
def yX3_swaps : MethodName := ⟨RX3, "swaps", "()I"⟩
abbrev cX3_misses : ByteArray := prog_5_method_36_code
def yX3_misses : MethodName := ⟨RX3, "misses", "()I"⟩
abbrev cX3_homecomings : ByteArray := prog_5_method_37_code
def yX3_homecomings : MethodName := ⟨RX3, "homecomings", "()I"⟩
abbrev cX3_cost : ByteArray := prog_5_method_38_code
def yX3_cost : MethodName := ⟨RX3, "cost", "()I"⟩
abbrev cX3_tried : ByteArray := prog_5_method_39_code
def yX3_tried : MethodName := ⟨RX3, "tried", "(II)I"⟩
abbrev cX3_wouldCost : ByteArray := prog_5_method_40_code
def yX3_wouldCost : MethodName := ⟨RX3, "wouldCost", "(II)I"⟩
abbrev cX3_bestPlaces : ByteArray := prog_5_method_41_code
def yX3_bestPlaces : MethodName := ⟨RX3, "bestPlaces", "()I"⟩
def RJx145de : String := "java/io/Serializable"
def TJx145de : u_T := fun k => match k with
  | _ => ("", "", "", false)
def tyJx145de : Nat → FieldType := fun k => match k with
  | _ => .int
abbrev wsJx145de0 : List Cond := u_ws RJx145de TJx145de 0
theorem nmJx145de : ∀ a, a < 0 → ∀ b, b < 0 → a ≠ b → (TJx145de a).2.1 ≠ (TJx145de b).2.1 := by decide +kernel
theorem tyJx145de_ok : ∀ k, k < 0 → parseFieldDescriptor (TJx145de k).2.2.1 = some (tyJx145de k) := by decide +kernel
def RJ9 : String := "java/lang/Math"
def TJ9 : u_T := fun k => match k with
  | _ => ("", "", "", false)
def tyJ9 : Nat → FieldType := fun k => match k with
  | _ => .int
abbrev wsJ90 : List Cond := u_ws RJ9 TJ9 0
theorem nmJ9 : ∀ a, a < 0 → ∀ b, b < 0 → a ≠ b → (TJ9 a).2.1 ≠ (TJ9 b).2.1 := by decide +kernel
theorem tyJ9_ok : ∀ k, k < 0 → parseFieldDescriptor (TJ9 k).2.2.1 = some (tyJ9 k) := by decide +kernel
abbrev cJ9_floorMod_7cf53 : ByteArray := prog_10_method_50_code
def yJ9_floorMod_7cf53 : MethodName := ⟨RJ9, "floorMod", "(II)I"⟩
def RJ0 : String := "java/lang/String"
def TJ0 : u_T := fun k => match k with
  | _ => ("", "", "", false)
def tyJ0 : Nat → FieldType := fun k => match k with
  | _ => .int
abbrev wsJ00 : List Cond := u_ws RJ0 TJ0 0
theorem nmJ0 : ∀ a, a < 0 → ∀ b, b < 0 → a ≠ b → (TJ0 a).2.1 ≠ (TJ0 b).2.1 := by decide +kernel
theorem tyJ0_ok : ∀ k, k < 0 → parseFieldDescriptor (TJ0 k).2.2.1 = some (tyJ0 k) := by decide +kernel
def RJ10 : String := "java/lang/System"
def TJ10 : u_T := fun k => match k with
  | _ => ("", "", "", false)
def tyJ10 : Nat → FieldType := fun k => match k with
  | _ => .int
abbrev wsJ100 : List Cond := u_ws RJ10 TJ10 0
theorem nmJ10 : ∀ a, a < 0 → ∀ b, b < 0 → a ≠ b → (TJ10 a).2.1 ≠ (TJ10 b).2.1 := by decide +kernel
theorem tyJ10_ok : ∀ k, k < 0 → parseFieldDescriptor (TJ10 k).2.2.1 = some (tyJ10 k) := by decide +kernel
def RJ7 : String := "java/util/Arrays"
def TJ7 : u_T := fun k => match k with
  | _ => ("", "", "", false)
def tyJ7 : Nat → FieldType := fun k => match k with
  | _ => .int
abbrev wsJ70 : List Cond := u_ws RJ7 TJ7 0
theorem nmJ7 : ∀ a, a < 0 → ∀ b, b < 0 → a ≠ b → (TJ7 a).2.1 ≠ (TJ7 b).2.1 := by decide +kernel
theorem tyJ7_ok : ∀ k, k < 0 → parseFieldDescriptor (TJ7 k).2.2.1 = some (tyJ7 k) := by decide +kernel
abbrev cJ7_fill_53178 : ByteArray := prog_15_method_103_code
def yJ7_fill_53178 : MethodName := ⟨RJ7, "fill", "([II)V"⟩
def RL : String := "OutcastBenchLaw"
abbrev cL_read : ByteArray := method_3_code
def yL_read : MethodName := ⟨RL, "read", "(LOutcastBench;I[J)I"⟩
abbrev cL_write : ByteArray := method_4_code
def yL_write : MethodName := ⟨RL, "write", "(LOutcastBench;II[J)I"⟩
abbrev cL_walk : ByteArray := method_5_code
def yL_walk : MethodName := ⟨RL, "walk", "(LOutcastBench;III[J)I"⟩
abbrev cL_build : ByteArray := method_6_code
def yL_build : MethodName := ⟨RL, "build", "(LOutcastBench;II[J)I"⟩
abbrev cL_cast : ByteArray := method_7_code
def yL_cast : MethodName := ⟨RL, "cast", "(LOutcastBench;I[J)I"⟩
abbrev cL_lineIn : ByteArray := method_8_code
def yL_lineIn : MethodName := ⟨RL, "lineIn", "(LOutcastBench;I[J)I"⟩
abbrev cL_lineOnBench : ByteArray := method_9_code
def yL_lineOnBench : MethodName := ⟨RL, "lineOnBench", "(LOutcastBench;I[J)I"⟩
abbrev cL_placeOf : ByteArray := method_10_code
def yL_placeOf : MethodName := ⟨RL, "placeOf", "(LOutcastBench;I[J)I"⟩
abbrev cL_isDirty : ByteArray := method_11_code
def yL_isDirty : MethodName := ⟨RL, "isDirty", "(LOutcastBench;I[J)I"⟩
abbrev cL_atHome : ByteArray := method_12_code
def yL_atHome : MethodName := ⟨RL, "atHome", "(LOutcastBench;I[J)I"⟩
abbrev cL_peek : ByteArray := method_13_code
def yL_peek : MethodName := ⟨RL, "peek", "(LOutcastBench;I[J)I"⟩
abbrev cL_wouldCost : ByteArray := method_14_code
def yL_wouldCost : MethodName := ⟨RL, "wouldCost", "(LOutcastBench;II[J)I"⟩
abbrev cL_law : ByteArray := code
def yL_law : MethodName := ⟨RL, "law", "([I)Z"⟩
def wsJ7_fill_53178 : List Cond := .code yJ7_fill_53178 cJ7_fill_53178 4 none :: ([])
def wsX0_startEmpty : List Cond := .code yX0_startEmpty cX0_startEmpty 4 none :: ([.fieldLink RX0 26 "OutcastBench$CacheAndBench" "setCount" "I", .fieldLink RX0 30 "OutcastBench$CacheAndBench" "placeCount" "I", .fieldLink RX0 9 "OutcastBench$CacheAndBench" "lines" "[I", .fieldLink RX0 39 "OutcastBench$CacheAndBench" "seated" "I", .fieldLink RX0 18 "OutcastBench$CacheAndBench" "dirtyLines" "[Z", .methodLink RX0 33 yJ7_fill_53178, .static yJ7_fill_53178, .initialized RJ7, .code yJ7_fill_53178 cJ7_fill_53178 4 none] ++ wsX00)
def wsX0_init : List Cond := .code yX0_init cX0_init 3 none :: ([.methodLink RX0 3 objectInit, .instanceMethod objectInit, .code objectInit ⟨#[0xb1]⟩ 1 none, .arrayClass .int, .fieldLink RX0 9 "OutcastBench$CacheAndBench" "lines" "[I", .fieldLink RX0 15 "OutcastBench$CacheAndBench" "bench" "[I", .arrayClass .boolean, .fieldLink RX0 18 "OutcastBench$CacheAndBench" "dirtyLines" "[Z", .methodLink RX0 22 yX0_startEmpty, .instanceMethod yX0_startEmpty, .selects RX0 yX0_startEmpty yX0_startEmpty, .initialized RX0, .code yX0_startEmpty cX0_startEmpty 4 none, .fieldLink RX0 26 "OutcastBench$CacheAndBench" "setCount" "I", .fieldLink RX0 30 "OutcastBench$CacheAndBench" "placeCount" "I", .fieldLink RX0 39 "OutcastBench$CacheAndBench" "seated" "I", .methodLink RX0 33 yJ7_fill_53178, .static yJ7_fill_53178, .initialized RJ7, .code yJ7_fill_53178 cJ7_fill_53178 4 none] ++ wsX00)
def wsX0_setOf : List Cond := .code yX0_setOf cX0_setOf 2 (some .int) :: ([.fieldLink RX0 26 "OutcastBench$CacheAndBench" "setCount" "I"] ++ wsX00)
def wsX0_seatOf : List Cond := .code yX0_seatOf cX0_seatOf 3 (some .int) :: ([.fieldLink RX0 39 "OutcastBench$CacheAndBench" "seated" "I", .fieldLink RX0 15 "OutcastBench$CacheAndBench" "bench" "[I"] ++ wsX00)
def wsX0_leaveBench : List Cond := .code yX0_leaveBench cX0_leaveBench 3 none :: ([.fieldLink RX0 39 "OutcastBench$CacheAndBench" "seated" "I", .fieldLink RX0 15 "OutcastBench$CacheAndBench" "bench" "[I"] ++ wsX00)
def wsX0_bringHomeIfDirty : List Cond := .code yX0_bringHomeIfDirty cX0_bringHomeIfDirty 2 none :: ([.fieldLink RX0 18 "OutcastBench$CacheAndBench" "dirtyLines" "[Z", .fieldLink RX0 71 "OutcastBench$CacheAndBench" "homecomingCount" "I", .fieldLink RX0 49 "OutcastBench$CacheAndBench" "costSoFar" "I"] ++ wsX00)
def wsX0_throwOut : List Cond := .code yX0_throwOut cX0_throwOut 3 none :: ([.fieldLink RX0 9 "OutcastBench$CacheAndBench" "lines" "[I", .fieldLink RX0 30 "OutcastBench$CacheAndBench" "placeCount" "I", .fieldLink RX0 39 "OutcastBench$CacheAndBench" "seated" "I", .fieldLink RX0 15 "OutcastBench$CacheAndBench" "bench" "[I", .methodLink RX0 68 yX0_bringHomeIfDirty, .instanceMethod yX0_bringHomeIfDirty, .selects RX0 yX0_bringHomeIfDirty yX0_bringHomeIfDirty, .initialized RX0, .code yX0_bringHomeIfDirty cX0_bringHomeIfDirty 2 none, .fieldLink RX0 18 "OutcastBench$CacheAndBench" "dirtyLines" "[Z", .fieldLink RX0 71 "OutcastBench$CacheAndBench" "homecomingCount" "I", .fieldLink RX0 49 "OutcastBench$CacheAndBench" "costSoFar" "I", .methodLink RX0 61 yX0_leaveBench, .instanceMethod yX0_leaveBench, .selects RX0 yX0_leaveBench yX0_leaveBench, .code yX0_leaveBench cX0_leaveBench 3 none] ++ wsX00)
def wsX0_access_r1 : List Cond := [Cond.fieldLink RX0 9 "OutcastBench$CacheAndBench" "lines" "[I", Cond.fieldLink RX0 46 "OutcastBench$CacheAndBench" "hitCount" "I", Cond.fieldLink RX0 49 "OutcastBench$CacheAndBench" "costSoFar" "I", Cond.fieldLink RX0 55 "OutcastBench$CacheAndBench" "missCount" "I", Cond.fieldLink RX0 58 "OutcastBench$CacheAndBench" "swapCount" "I", Cond.fieldLink RX0 18 "OutcastBench$CacheAndBench" "dirtyLines" "[Z", Cond.methodLink RX0 42 yX0_setOf, Cond.instanceMethod yX0_setOf, Cond.selects RX0 yX0_setOf yX0_setOf, Cond.initialized RX0, Cond.code yX0_setOf cX0_setOf 2 (some .int), Cond.fieldLink RX0 26 "OutcastBench$CacheAndBench" "setCount" "I", Cond.methodLink RX0 52 yX0_seatOf, Cond.instanceMethod yX0_seatOf, Cond.selects RX0 yX0_seatOf yX0_seatOf, Cond.code yX0_seatOf cX0_seatOf 3 (some .int), Cond.fieldLink RX0 39 "OutcastBench$CacheAndBench" "seated" "I", Cond.fieldLink RX0 15 "OutcastBench$CacheAndBench" "bench" "[I", Cond.methodLink RX0 61 yX0_leaveBench, Cond.instanceMethod yX0_leaveBench, Cond.selects RX0 yX0_leaveBench yX0_leaveBench, Cond.code yX0_leaveBench cX0_leaveBench 3 none, Cond.methodLink RX0 65 yX0_throwOut, Cond.instanceMethod yX0_throwOut]
def wsX0_access_r2 : List Cond := [Cond.selects RX0 yX0_throwOut yX0_throwOut, Cond.code yX0_throwOut cX0_throwOut 3 none, Cond.fieldLink RX0 30 "OutcastBench$CacheAndBench" "placeCount" "I", Cond.methodLink RX0 68 yX0_bringHomeIfDirty, Cond.instanceMethod yX0_bringHomeIfDirty, Cond.selects RX0 yX0_bringHomeIfDirty yX0_bringHomeIfDirty, Cond.code yX0_bringHomeIfDirty cX0_bringHomeIfDirty 2 none, Cond.fieldLink RX0 71 "OutcastBench$CacheAndBench" "homecomingCount" "I"]
def wsX0_access : List Cond := .code yX0_access cX0_access 5 none :: ((wsX0_access_r1 ++ wsX0_access_r2) ++ wsX00)
def wsX0_bringAllHome : List Cond := .code yX0_bringAllHome cX0_bringAllHome 3 (some .int) :: ([.fieldLink RX0 71 "OutcastBench$CacheAndBench" "homecomingCount" "I", .fieldLink RX0 26 "OutcastBench$CacheAndBench" "setCount" "I", .fieldLink RX0 9 "OutcastBench$CacheAndBench" "lines" "[I", .fieldLink RX0 39 "OutcastBench$CacheAndBench" "seated" "I", .fieldLink RX0 15 "OutcastBench$CacheAndBench" "bench" "[I", .methodLink RX0 68 yX0_bringHomeIfDirty, .instanceMethod yX0_bringHomeIfDirty, .selects RX0 yX0_bringHomeIfDirty yX0_bringHomeIfDirty, .initialized RX0, .code yX0_bringHomeIfDirty cX0_bringHomeIfDirty 2 none, .fieldLink RX0 18 "OutcastBench$CacheAndBench" "dirtyLines" "[Z", .fieldLink RX0 49 "OutcastBench$CacheAndBench" "costSoFar" "I"] ++ wsX00)
def wsX0_countLines : List Cond := .code yX0_countLines cX0_countLines 3 (some .int) :: ([.fieldLink RX0 39 "OutcastBench$CacheAndBench" "seated" "I", .fieldLink RX0 26 "OutcastBench$CacheAndBench" "setCount" "I", .fieldLink RX0 9 "OutcastBench$CacheAndBench" "lines" "[I"] ++ wsX00)
def wsX0_countDirty : List Cond := .code yX0_countDirty cX0_countDirty 3 (some .int) :: ([.fieldLink RX0 18 "OutcastBench$CacheAndBench" "dirtyLines" "[Z"] ++ wsX00)
def wsX0_whereIs : List Cond := .code yX0_whereIs cX0_whereIs 2 (some .int) :: ([.fieldLink RX0 9 "OutcastBench$CacheAndBench" "lines" "[I", .methodLink RX0 42 yX0_setOf, .instanceMethod yX0_setOf, .selects RX0 yX0_setOf yX0_setOf, .initialized RX0, .code yX0_setOf cX0_setOf 2 (some .int), .fieldLink RX0 26 "OutcastBench$CacheAndBench" "setCount" "I", .methodLink RX0 52 yX0_seatOf, .instanceMethod yX0_seatOf, .selects RX0 yX0_seatOf yX0_seatOf, .code yX0_seatOf cX0_seatOf 3 (some .int), .fieldLink RX0 39 "OutcastBench$CacheAndBench" "seated" "I", .fieldLink RX0 15 "OutcastBench$CacheAndBench" "bench" "[I"] ++ wsX00)
def wsX1_init : List Cond := .code yX1_init cX1_init 1 none :: ([.methodLink RX1 3 objectInit, .instanceMethod objectInit, .code objectInit ⟨#[0xb1]⟩ 1 none, .arrayClass .int, .fieldLink RX1 9 "OutcastBench$LastAccesses" "lines" "[I", .arrayClass .boolean, .fieldLink RX1 15 "OutcastBench$LastAccesses" "writes" "[Z"] ++ wsX10)
def wsX1_add : List Cond := .code yX1_add cX1_add 3 none :: ([.fieldLink RX1 9 "OutcastBench$LastAccesses" "lines" "[I", .fieldLink RX1 19 "OutcastBench$LastAccesses" "next" "I", .fieldLink RX1 15 "OutcastBench$LastAccesses" "writes" "[Z", .fieldLink RX1 23 "OutcastBench$LastAccesses" "count" "I"] ++ wsX10)
def wsX1_slotOf : List Cond := .code yX1_slotOf cX1_slotOf 3 (some .int) :: ([.fieldLink RX1 23 "OutcastBench$LastAccesses" "count" "I", .fieldLink RX1 19 "OutcastBench$LastAccesses" "next" "I"] ++ wsX10)
def wsX2_init_r1 : List Cond := [Cond.methodLink RX2 3 objectInit, Cond.instanceMethod objectInit, Cond.code objectInit ⟨#[0xb1]⟩ 1 none, Cond.arrayClass .int, Cond.fieldLink RX2 9 "OutcastBench" "written" "[I", Cond.fieldLink RX2 13 "OutcastBench" "home" "[I", Cond.classLink RX2 16 RX0, Cond.instantiable RX0 11, Cond.initialized RX0, Cond.fieldLink RX2 21 "OutcastBench" "actual" "LOutcastBench$CacheAndBench;", Cond.fieldLink RX2 25 "OutcastBench" "trial" "LOutcastBench$CacheAndBench;", Cond.classLink RX2 28 RX1, Cond.instantiable RX1 4, Cond.initialized RX1, Cond.fieldLink RX2 31 "OutcastBench" "last" "LOutcastBench$LastAccesses;", Cond.methodLink RX2 18 yX0_init, Cond.instanceMethod yX0_init, Cond.code yX0_init cX0_init 3 none, Cond.methodLink RX0 3 objectInit, Cond.fieldLink RX0 9 "OutcastBench$CacheAndBench" "lines" "[I", Cond.fieldLink RX0 15 "OutcastBench$CacheAndBench" "bench" "[I", Cond.arrayClass .boolean, Cond.fieldLink RX0 18 "OutcastBench$CacheAndBench" "dirtyLines" "[Z", Cond.methodLink RX0 22 yX0_startEmpty]
def wsX2_init_r2 : List Cond := [Cond.instanceMethod yX0_startEmpty, Cond.selects RX0 yX0_startEmpty yX0_startEmpty, Cond.code yX0_startEmpty cX0_startEmpty 4 none, Cond.fieldLink RX0 26 "OutcastBench$CacheAndBench" "setCount" "I", Cond.fieldLink RX0 30 "OutcastBench$CacheAndBench" "placeCount" "I", Cond.fieldLink RX0 39 "OutcastBench$CacheAndBench" "seated" "I", Cond.methodLink RX0 33 yJ7_fill_53178, Cond.static yJ7_fill_53178, Cond.initialized RJ7, Cond.code yJ7_fill_53178 cJ7_fill_53178 4 none, Cond.instanceMethod yX1_init, Cond.code yX1_init cX1_init 1 none, Cond.methodLink RX1 3 objectInit, Cond.fieldLink RX1 9 "OutcastBench$LastAccesses" "lines" "[I", Cond.fieldLink RX1 15 "OutcastBench$LastAccesses" "writes" "[Z"]
def wsX2_init : List Cond := .code yX2_init cX2_init 1 none :: ((wsX2_init_r1 ++ wsX2_init_r2) ++ wsX20 ++ wsX00 ++ wsX10)
def wsX2_requireWord : List Cond := .code yX2_requireWord cX2_requireWord 1 none :: ([.classLink RX2 107 "java/lang/IndexOutOfBoundsException", .initialized "java/lang/IndexOutOfBoundsException"] ++ (vx_atS RX2 111 "java/lang/IndexOutOfBoundsException" ["java/lang/RuntimeException", "java/lang/Exception"]).filter goodWord)
def wsX2_lineOf : List Cond := .code yX2_lineOf cX2_lineOf 1 (some .int) :: ([])
def wsX2_ask_r1 : List Cond := [Cond.fieldLink RX2 21 "OutcastBench" "actual" "LOutcastBench$CacheAndBench;", Cond.fieldLink RX2 31 "OutcastBench" "last" "LOutcastBench$LastAccesses;", Cond.methodLink RX2 139 yX0_access, Cond.instanceMethod yX0_access, Cond.selects RX0 yX0_access yX0_access, Cond.initialized RX0, Cond.code yX0_access cX0_access 5 none, Cond.fieldLink RX0 9 "OutcastBench$CacheAndBench" "lines" "[I", Cond.fieldLink RX0 46 "OutcastBench$CacheAndBench" "hitCount" "I", Cond.fieldLink RX0 49 "OutcastBench$CacheAndBench" "costSoFar" "I", Cond.fieldLink RX0 55 "OutcastBench$CacheAndBench" "missCount" "I", Cond.fieldLink RX0 58 "OutcastBench$CacheAndBench" "swapCount" "I", Cond.fieldLink RX0 18 "OutcastBench$CacheAndBench" "dirtyLines" "[Z", Cond.methodLink RX0 42 yX0_setOf, Cond.instanceMethod yX0_setOf, Cond.selects RX0 yX0_setOf yX0_setOf, Cond.code yX0_setOf cX0_setOf 2 (some .int), Cond.fieldLink RX0 26 "OutcastBench$CacheAndBench" "setCount" "I", Cond.methodLink RX0 52 yX0_seatOf, Cond.instanceMethod yX0_seatOf, Cond.selects RX0 yX0_seatOf yX0_seatOf, Cond.code yX0_seatOf cX0_seatOf 3 (some .int), Cond.fieldLink RX0 39 "OutcastBench$CacheAndBench" "seated" "I", Cond.fieldLink RX0 15 "OutcastBench$CacheAndBench" "bench" "[I"]
def wsX2_ask_r2 : List Cond := [Cond.methodLink RX0 61 yX0_leaveBench, Cond.instanceMethod yX0_leaveBench, Cond.selects RX0 yX0_leaveBench yX0_leaveBench, Cond.code yX0_leaveBench cX0_leaveBench 3 none, Cond.methodLink RX0 65 yX0_throwOut, Cond.instanceMethod yX0_throwOut, Cond.selects RX0 yX0_throwOut yX0_throwOut, Cond.code yX0_throwOut cX0_throwOut 3 none, Cond.fieldLink RX0 30 "OutcastBench$CacheAndBench" "placeCount" "I", Cond.methodLink RX0 68 yX0_bringHomeIfDirty, Cond.instanceMethod yX0_bringHomeIfDirty, Cond.selects RX0 yX0_bringHomeIfDirty yX0_bringHomeIfDirty, Cond.code yX0_bringHomeIfDirty cX0_bringHomeIfDirty 2 none, Cond.fieldLink RX0 71 "OutcastBench$CacheAndBench" "homecomingCount" "I", Cond.methodLink RX2 142 yX1_add, Cond.instanceMethod yX1_add, Cond.selects RX1 yX1_add yX1_add, Cond.initialized RX1, Cond.code yX1_add cX1_add 3 none, Cond.fieldLink RX1 9 "OutcastBench$LastAccesses" "lines" "[I", Cond.fieldLink RX1 19 "OutcastBench$LastAccesses" "next" "I", Cond.fieldLink RX1 15 "OutcastBench$LastAccesses" "writes" "[Z", Cond.fieldLink RX1 23 "OutcastBench$LastAccesses" "count" "I"]
def wsX2_ask : List Cond := .code yX2_ask cX2_ask 3 none :: ((wsX2_ask_r1 ++ wsX2_ask_r2) ++ wsX20 ++ wsX00 ++ wsX10)
def wsX2_read_r1 : List Cond := [Cond.fieldLink RX2 9 "OutcastBench" "written" "[I", Cond.methodLink RX2 35 yX2_requireWord, Cond.static yX2_requireWord, Cond.initialized RX2, Cond.code yX2_requireWord cX2_requireWord 1 none, Cond.classLink RX2 107 "java/lang/IndexOutOfBoundsException", Cond.initialized "java/lang/IndexOutOfBoundsException", Cond.methodLink RX2 39 yX2_lineOf, Cond.static yX2_lineOf, Cond.code yX2_lineOf cX2_lineOf 1 (some .int), Cond.methodLink RX2 43 yX2_ask, Cond.instanceMethod yX2_ask, Cond.selects RX2 yX2_ask yX2_ask, Cond.code yX2_ask cX2_ask 3 none, Cond.fieldLink RX2 21 "OutcastBench" "actual" "LOutcastBench$CacheAndBench;", Cond.fieldLink RX2 31 "OutcastBench" "last" "LOutcastBench$LastAccesses;", Cond.methodLink RX2 139 yX0_access, Cond.instanceMethod yX0_access, Cond.selects RX0 yX0_access yX0_access, Cond.initialized RX0, Cond.code yX0_access cX0_access 5 none, Cond.fieldLink RX0 9 "OutcastBench$CacheAndBench" "lines" "[I", Cond.fieldLink RX0 46 "OutcastBench$CacheAndBench" "hitCount" "I", Cond.fieldLink RX0 49 "OutcastBench$CacheAndBench" "costSoFar" "I"]
def wsX2_read_r2 : List Cond := [Cond.fieldLink RX0 55 "OutcastBench$CacheAndBench" "missCount" "I", Cond.fieldLink RX0 58 "OutcastBench$CacheAndBench" "swapCount" "I", Cond.fieldLink RX0 18 "OutcastBench$CacheAndBench" "dirtyLines" "[Z", Cond.methodLink RX0 42 yX0_setOf, Cond.instanceMethod yX0_setOf, Cond.selects RX0 yX0_setOf yX0_setOf, Cond.code yX0_setOf cX0_setOf 2 (some .int), Cond.fieldLink RX0 26 "OutcastBench$CacheAndBench" "setCount" "I", Cond.methodLink RX0 52 yX0_seatOf, Cond.instanceMethod yX0_seatOf, Cond.selects RX0 yX0_seatOf yX0_seatOf, Cond.code yX0_seatOf cX0_seatOf 3 (some .int), Cond.fieldLink RX0 39 "OutcastBench$CacheAndBench" "seated" "I", Cond.fieldLink RX0 15 "OutcastBench$CacheAndBench" "bench" "[I", Cond.methodLink RX0 61 yX0_leaveBench, Cond.instanceMethod yX0_leaveBench, Cond.selects RX0 yX0_leaveBench yX0_leaveBench, Cond.code yX0_leaveBench cX0_leaveBench 3 none, Cond.methodLink RX0 65 yX0_throwOut, Cond.instanceMethod yX0_throwOut, Cond.selects RX0 yX0_throwOut yX0_throwOut, Cond.code yX0_throwOut cX0_throwOut 3 none, Cond.fieldLink RX0 30 "OutcastBench$CacheAndBench" "placeCount" "I", Cond.methodLink RX0 68 yX0_bringHomeIfDirty]
def wsX2_read_r3 : List Cond := [Cond.instanceMethod yX0_bringHomeIfDirty, Cond.selects RX0 yX0_bringHomeIfDirty yX0_bringHomeIfDirty, Cond.code yX0_bringHomeIfDirty cX0_bringHomeIfDirty 2 none, Cond.fieldLink RX0 71 "OutcastBench$CacheAndBench" "homecomingCount" "I", Cond.methodLink RX2 142 yX1_add, Cond.instanceMethod yX1_add, Cond.selects RX1 yX1_add yX1_add, Cond.initialized RX1, Cond.code yX1_add cX1_add 3 none, Cond.fieldLink RX1 9 "OutcastBench$LastAccesses" "lines" "[I", Cond.fieldLink RX1 19 "OutcastBench$LastAccesses" "next" "I", Cond.fieldLink RX1 15 "OutcastBench$LastAccesses" "writes" "[Z", Cond.fieldLink RX1 23 "OutcastBench$LastAccesses" "count" "I"]
def wsX2_read : List Cond := .code yX2_read cX2_read 2 (some .int) :: ((wsX2_read_r1 ++ (wsX2_read_r2 ++ wsX2_read_r3)) ++ wsX20 ++ wsX00 ++ wsX10 ++ (vx_atS RX2 111 "java/lang/IndexOutOfBoundsException" ["java/lang/RuntimeException", "java/lang/Exception"]).filter goodWord)
def wsX2_keepHomeWords : List Cond := .code yX2_keepHomeWords cX2_keepHomeWords 3 none :: ([.fieldLink RX2 9 "OutcastBench" "written" "[I", .fieldLink RX2 13 "OutcastBench" "home" "[I", .methodLink RX2 145 arraycopyName, .native arraycopyName, .static arraycopyName, .initialized "java/lang/System"] ++ wsX20)
def wsX2_write_r1 : List Cond := [Cond.fieldLink RX2 21 "OutcastBench" "actual" "LOutcastBench$CacheAndBench;", Cond.fieldLink RX2 47 "OutcastBench$CacheAndBench" "dirtyLines" "[Z", Cond.fieldLink RX2 9 "OutcastBench" "written" "[I", Cond.methodLink RX2 35 yX2_requireWord, Cond.static yX2_requireWord, Cond.initialized RX2, Cond.code yX2_requireWord cX2_requireWord 1 none, Cond.classLink RX2 107 "java/lang/IndexOutOfBoundsException", Cond.initialized "java/lang/IndexOutOfBoundsException", Cond.methodLink RX2 39 yX2_lineOf, Cond.static yX2_lineOf, Cond.code yX2_lineOf cX2_lineOf 1 (some .int), Cond.methodLink RX2 51 yX2_keepHomeWords, Cond.instanceMethod yX2_keepHomeWords, Cond.selects RX2 yX2_keepHomeWords yX2_keepHomeWords, Cond.code yX2_keepHomeWords cX2_keepHomeWords 3 none, Cond.fieldLink RX2 13 "OutcastBench" "home" "[I", Cond.methodLink RX2 145 arraycopyName, Cond.native arraycopyName, Cond.static arraycopyName, Cond.initialized "java/lang/System", Cond.methodLink RX2 43 yX2_ask, Cond.instanceMethod yX2_ask, Cond.selects RX2 yX2_ask yX2_ask]
def wsX2_write_r2 : List Cond := [Cond.code yX2_ask cX2_ask 3 none, Cond.fieldLink RX2 31 "OutcastBench" "last" "LOutcastBench$LastAccesses;", Cond.methodLink RX2 139 yX0_access, Cond.instanceMethod yX0_access, Cond.selects RX0 yX0_access yX0_access, Cond.initialized RX0, Cond.code yX0_access cX0_access 5 none, Cond.fieldLink RX0 9 "OutcastBench$CacheAndBench" "lines" "[I", Cond.fieldLink RX0 46 "OutcastBench$CacheAndBench" "hitCount" "I", Cond.fieldLink RX0 49 "OutcastBench$CacheAndBench" "costSoFar" "I", Cond.fieldLink RX0 55 "OutcastBench$CacheAndBench" "missCount" "I", Cond.fieldLink RX0 58 "OutcastBench$CacheAndBench" "swapCount" "I", Cond.fieldLink RX0 18 "OutcastBench$CacheAndBench" "dirtyLines" "[Z", Cond.methodLink RX0 42 yX0_setOf, Cond.instanceMethod yX0_setOf, Cond.selects RX0 yX0_setOf yX0_setOf, Cond.code yX0_setOf cX0_setOf 2 (some .int), Cond.fieldLink RX0 26 "OutcastBench$CacheAndBench" "setCount" "I", Cond.methodLink RX0 52 yX0_seatOf, Cond.instanceMethod yX0_seatOf, Cond.selects RX0 yX0_seatOf yX0_seatOf, Cond.code yX0_seatOf cX0_seatOf 3 (some .int), Cond.fieldLink RX0 39 "OutcastBench$CacheAndBench" "seated" "I", Cond.fieldLink RX0 15 "OutcastBench$CacheAndBench" "bench" "[I"]
def wsX2_write_r3 : List Cond := [Cond.methodLink RX0 61 yX0_leaveBench, Cond.instanceMethod yX0_leaveBench, Cond.selects RX0 yX0_leaveBench yX0_leaveBench, Cond.code yX0_leaveBench cX0_leaveBench 3 none, Cond.methodLink RX0 65 yX0_throwOut, Cond.instanceMethod yX0_throwOut, Cond.selects RX0 yX0_throwOut yX0_throwOut, Cond.code yX0_throwOut cX0_throwOut 3 none, Cond.fieldLink RX0 30 "OutcastBench$CacheAndBench" "placeCount" "I", Cond.methodLink RX0 68 yX0_bringHomeIfDirty, Cond.instanceMethod yX0_bringHomeIfDirty, Cond.selects RX0 yX0_bringHomeIfDirty yX0_bringHomeIfDirty, Cond.code yX0_bringHomeIfDirty cX0_bringHomeIfDirty 2 none, Cond.fieldLink RX0 71 "OutcastBench$CacheAndBench" "homecomingCount" "I", Cond.methodLink RX2 142 yX1_add, Cond.instanceMethod yX1_add, Cond.selects RX1 yX1_add yX1_add, Cond.initialized RX1, Cond.code yX1_add cX1_add 3 none, Cond.fieldLink RX1 9 "OutcastBench$LastAccesses" "lines" "[I", Cond.fieldLink RX1 19 "OutcastBench$LastAccesses" "next" "I", Cond.fieldLink RX1 15 "OutcastBench$LastAccesses" "writes" "[Z", Cond.fieldLink RX1 23 "OutcastBench$LastAccesses" "count" "I"]
def wsX2_write : List Cond := .code yX2_write cX2_write 5 (some .int) :: ((wsX2_write_r1 ++ (wsX2_write_r2 ++ wsX2_write_r3)) ++ wsX20 ++ wsX00 ++ wsX10 ++ (vx_atS RX2 111 "java/lang/IndexOutOfBoundsException" ["java/lang/RuntimeException", "java/lang/Exception"]).filter goodWord)
def wsJ9_floorMod_7cf53 : List Cond := .code yJ9_floorMod_7cf53 cJ9_floorMod_7cf53 3 (some .int) :: ([])
def wsX2_walk_r1 : List Cond := [Cond.classLink RX2 54 "java/lang/IllegalArgumentException", Cond.initialized "java/lang/IllegalArgumentException", Cond.fieldLink RX2 21 "OutcastBench" "actual" "LOutcastBench$CacheAndBench;", Cond.fieldLink RX2 61 "OutcastBench$CacheAndBench" "costSoFar" "I", Cond.methodLink RX2 35 yX2_requireWord, Cond.static yX2_requireWord, Cond.initialized RX2, Cond.code yX2_requireWord cX2_requireWord 1 none, Cond.classLink RX2 107 "java/lang/IndexOutOfBoundsException", Cond.initialized "java/lang/IndexOutOfBoundsException", Cond.methodLink RX2 39 yX2_lineOf, Cond.static yX2_lineOf, Cond.code yX2_lineOf cX2_lineOf 1 (some .int), Cond.methodLink RX2 43 yX2_ask, Cond.instanceMethod yX2_ask, Cond.selects RX2 yX2_ask yX2_ask, Cond.code yX2_ask cX2_ask 3 none, Cond.fieldLink RX2 31 "OutcastBench" "last" "LOutcastBench$LastAccesses;", Cond.methodLink RX2 139 yX0_access, Cond.instanceMethod yX0_access, Cond.selects RX0 yX0_access yX0_access, Cond.initialized RX0, Cond.code yX0_access cX0_access 5 none, Cond.fieldLink RX0 9 "OutcastBench$CacheAndBench" "lines" "[I"]
def wsX2_walk_r2 : List Cond := [Cond.fieldLink RX0 46 "OutcastBench$CacheAndBench" "hitCount" "I", Cond.fieldLink RX0 49 "OutcastBench$CacheAndBench" "costSoFar" "I", Cond.fieldLink RX0 55 "OutcastBench$CacheAndBench" "missCount" "I", Cond.fieldLink RX0 58 "OutcastBench$CacheAndBench" "swapCount" "I", Cond.fieldLink RX0 18 "OutcastBench$CacheAndBench" "dirtyLines" "[Z", Cond.methodLink RX0 42 yX0_setOf, Cond.instanceMethod yX0_setOf, Cond.selects RX0 yX0_setOf yX0_setOf, Cond.code yX0_setOf cX0_setOf 2 (some .int), Cond.fieldLink RX0 26 "OutcastBench$CacheAndBench" "setCount" "I", Cond.methodLink RX0 52 yX0_seatOf, Cond.instanceMethod yX0_seatOf, Cond.selects RX0 yX0_seatOf yX0_seatOf, Cond.code yX0_seatOf cX0_seatOf 3 (some .int), Cond.fieldLink RX0 39 "OutcastBench$CacheAndBench" "seated" "I", Cond.fieldLink RX0 15 "OutcastBench$CacheAndBench" "bench" "[I", Cond.methodLink RX0 61 yX0_leaveBench, Cond.instanceMethod yX0_leaveBench, Cond.selects RX0 yX0_leaveBench yX0_leaveBench, Cond.code yX0_leaveBench cX0_leaveBench 3 none, Cond.methodLink RX0 65 yX0_throwOut, Cond.instanceMethod yX0_throwOut, Cond.selects RX0 yX0_throwOut yX0_throwOut, Cond.code yX0_throwOut cX0_throwOut 3 none]
def wsX2_walk_r3 : List Cond := [Cond.fieldLink RX0 30 "OutcastBench$CacheAndBench" "placeCount" "I", Cond.methodLink RX0 68 yX0_bringHomeIfDirty, Cond.instanceMethod yX0_bringHomeIfDirty, Cond.selects RX0 yX0_bringHomeIfDirty yX0_bringHomeIfDirty, Cond.code yX0_bringHomeIfDirty cX0_bringHomeIfDirty 2 none, Cond.fieldLink RX0 71 "OutcastBench$CacheAndBench" "homecomingCount" "I", Cond.methodLink RX2 142 yX1_add, Cond.instanceMethod yX1_add, Cond.selects RX1 yX1_add yX1_add, Cond.initialized RX1, Cond.code yX1_add cX1_add 3 none, Cond.fieldLink RX1 9 "OutcastBench$LastAccesses" "lines" "[I", Cond.fieldLink RX1 19 "OutcastBench$LastAccesses" "next" "I", Cond.fieldLink RX1 15 "OutcastBench$LastAccesses" "writes" "[Z", Cond.fieldLink RX1 23 "OutcastBench$LastAccesses" "count" "I", Cond.methodLink RX2 65 yJ9_floorMod_7cf53, Cond.static yJ9_floorMod_7cf53, Cond.initialized RJ9, Cond.code yJ9_floorMod_7cf53 cJ9_floorMod_7cf53 3 (some .int)]
def wsX2_walk : List Cond := .code yX2_walk cX2_walk 7 (some .int) :: ((wsX2_walk_r1 ++ (wsX2_walk_r2 ++ wsX2_walk_r3)) ++ wsX20 ++ wsX00 ++ wsX10 ++ (vx_atS RX2 58 "java/lang/IllegalArgumentException" ["java/lang/RuntimeException", "java/lang/Exception"]).filter goodWord ++ (vx_atS RX2 111 "java/lang/IndexOutOfBoundsException" ["java/lang/RuntimeException", "java/lang/Exception"]).filter goodWord)
def wsX2_bringHome : List Cond := .code yX2_bringHome cX2_bringHome 1 (some .int) :: ([.fieldLink RX2 21 "OutcastBench" "actual" "LOutcastBench$CacheAndBench;", .methodLink RX2 71 yX0_bringAllHome, .instanceMethod yX0_bringAllHome, .selects RX0 yX0_bringAllHome yX0_bringAllHome, .initialized RX0, .code yX0_bringAllHome cX0_bringAllHome 3 (some .int), .fieldLink RX0 71 "OutcastBench$CacheAndBench" "homecomingCount" "I", .fieldLink RX0 26 "OutcastBench$CacheAndBench" "setCount" "I", .fieldLink RX0 9 "OutcastBench$CacheAndBench" "lines" "[I", .fieldLink RX0 39 "OutcastBench$CacheAndBench" "seated" "I", .fieldLink RX0 15 "OutcastBench$CacheAndBench" "bench" "[I", .methodLink RX0 68 yX0_bringHomeIfDirty, .instanceMethod yX0_bringHomeIfDirty, .selects RX0 yX0_bringHomeIfDirty yX0_bringHomeIfDirty, .code yX0_bringHomeIfDirty cX0_bringHomeIfDirty 2 none, .fieldLink RX0 18 "OutcastBench$CacheAndBench" "dirtyLines" "[Z", .fieldLink RX0 49 "OutcastBench$CacheAndBench" "costSoFar" "I"] ++ wsX20 ++ wsX00)
def wsX2_requireSize : List Cond := .code yX2_requireSize cX2_requireSize 3 none :: ([.classLink RX2 54 "java/lang/IllegalArgumentException", .initialized "java/lang/IllegalArgumentException"] ++ (vx_atS RX2 58 "java/lang/IllegalArgumentException" ["java/lang/RuntimeException", "java/lang/Exception"]).filter goodWord)
def wsX2_build_r1 : List Cond := [Cond.fieldLink RX2 21 "OutcastBench" "actual" "LOutcastBench$CacheAndBench;", Cond.methodLink RX2 75 yX2_requireSize, Cond.static yX2_requireSize, Cond.initialized RX2, Cond.code yX2_requireSize cX2_requireSize 3 none, Cond.classLink RX2 54 "java/lang/IllegalArgumentException", Cond.initialized "java/lang/IllegalArgumentException", Cond.methodLink RX2 78 yX0_countLines, Cond.instanceMethod yX0_countLines, Cond.selects RX0 yX0_countLines yX0_countLines, Cond.initialized RX0, Cond.code yX0_countLines cX0_countLines 3 (some .int), Cond.fieldLink RX0 39 "OutcastBench$CacheAndBench" "seated" "I", Cond.fieldLink RX0 26 "OutcastBench$CacheAndBench" "setCount" "I", Cond.fieldLink RX0 9 "OutcastBench$CacheAndBench" "lines" "[I", Cond.methodLink RX2 71 yX0_bringAllHome, Cond.instanceMethod yX0_bringAllHome, Cond.selects RX0 yX0_bringAllHome yX0_bringAllHome, Cond.code yX0_bringAllHome cX0_bringAllHome 3 (some .int), Cond.fieldLink RX0 71 "OutcastBench$CacheAndBench" "homecomingCount" "I", Cond.fieldLink RX0 15 "OutcastBench$CacheAndBench" "bench" "[I", Cond.methodLink RX0 68 yX0_bringHomeIfDirty, Cond.instanceMethod yX0_bringHomeIfDirty, Cond.selects RX0 yX0_bringHomeIfDirty yX0_bringHomeIfDirty]
def wsX2_build_r2 : List Cond := [Cond.code yX0_bringHomeIfDirty cX0_bringHomeIfDirty 2 none, Cond.fieldLink RX0 18 "OutcastBench$CacheAndBench" "dirtyLines" "[Z", Cond.fieldLink RX0 49 "OutcastBench$CacheAndBench" "costSoFar" "I", Cond.methodLink RX2 81 yX0_startEmpty, Cond.instanceMethod yX0_startEmpty, Cond.selects RX0 yX0_startEmpty yX0_startEmpty, Cond.code yX0_startEmpty cX0_startEmpty 4 none, Cond.fieldLink RX0 30 "OutcastBench$CacheAndBench" "placeCount" "I", Cond.methodLink RX0 33 yJ7_fill_53178, Cond.static yJ7_fill_53178, Cond.initialized RJ7, Cond.code yJ7_fill_53178 cJ7_fill_53178 4 none]
def wsX2_build : List Cond := .code yX2_build cX2_build 4 (some .int) :: ((wsX2_build_r1 ++ wsX2_build_r2) ++ wsX20 ++ wsX00 ++ (vx_atS RX2 58 "java/lang/IllegalArgumentException" ["java/lang/RuntimeException", "java/lang/Exception"]).filter goodWord)
def wsX2_requireSet : List Cond := .code yX2_requireSet cX2_requireSet 2 none :: ([.classLink RX2 107 "java/lang/IndexOutOfBoundsException", .initialized "java/lang/IndexOutOfBoundsException", .fieldLink RX2 21 "OutcastBench" "actual" "LOutcastBench$CacheAndBench;", .fieldLink RX2 98 "OutcastBench$CacheAndBench" "setCount" "I"] ++ wsX20 ++ wsX00 ++ (vx_atS RX2 111 "java/lang/IndexOutOfBoundsException" ["java/lang/RuntimeException", "java/lang/Exception"]).filter goodWord)
def wsX2_cast_r1 : List Cond := [Cond.classLink RX2 90 "java/lang/IllegalStateException", Cond.initialized "java/lang/IllegalStateException", Cond.fieldLink RX2 21 "OutcastBench" "actual" "LOutcastBench$CacheAndBench;", Cond.fieldLink RX2 87 "OutcastBench$CacheAndBench" "lines" "[I", Cond.methodLink RX2 84 yX2_requireSet, Cond.instanceMethod yX2_requireSet, Cond.selects RX2 yX2_requireSet yX2_requireSet, Cond.initialized RX2, Cond.code yX2_requireSet cX2_requireSet 2 none, Cond.classLink RX2 107 "java/lang/IndexOutOfBoundsException", Cond.initialized "java/lang/IndexOutOfBoundsException", Cond.fieldLink RX2 98 "OutcastBench$CacheAndBench" "setCount" "I", Cond.methodLink RX2 95 yX0_throwOut, Cond.instanceMethod yX0_throwOut, Cond.selects RX0 yX0_throwOut yX0_throwOut, Cond.initialized RX0, Cond.code yX0_throwOut cX0_throwOut 3 none, Cond.fieldLink RX0 9 "OutcastBench$CacheAndBench" "lines" "[I", Cond.fieldLink RX0 30 "OutcastBench$CacheAndBench" "placeCount" "I", Cond.fieldLink RX0 39 "OutcastBench$CacheAndBench" "seated" "I", Cond.fieldLink RX0 15 "OutcastBench$CacheAndBench" "bench" "[I", Cond.methodLink RX0 68 yX0_bringHomeIfDirty, Cond.instanceMethod yX0_bringHomeIfDirty, Cond.selects RX0 yX0_bringHomeIfDirty yX0_bringHomeIfDirty]
def wsX2_cast_r2 : List Cond := [Cond.code yX0_bringHomeIfDirty cX0_bringHomeIfDirty 2 none, Cond.fieldLink RX0 18 "OutcastBench$CacheAndBench" "dirtyLines" "[Z", Cond.fieldLink RX0 71 "OutcastBench$CacheAndBench" "homecomingCount" "I", Cond.fieldLink RX0 49 "OutcastBench$CacheAndBench" "costSoFar" "I", Cond.methodLink RX0 61 yX0_leaveBench, Cond.instanceMethod yX0_leaveBench, Cond.selects RX0 yX0_leaveBench yX0_leaveBench, Cond.code yX0_leaveBench cX0_leaveBench 3 none]
def wsX2_cast : List Cond := .code yX2_cast cX2_cast 3 (some .int) :: ((wsX2_cast_r1 ++ wsX2_cast_r2) ++ wsX20 ++ wsX00 ++ (vx_atS RX2 94 "java/lang/IllegalStateException" ["java/lang/RuntimeException", "java/lang/Exception"]).filter goodWord ++ (vx_atS RX2 111 "java/lang/IndexOutOfBoundsException" ["java/lang/RuntimeException", "java/lang/Exception"]).filter goodWord)
def wsX2_sets : List Cond := .code yX2_sets cX2_sets 1 (some .int) :: ([.fieldLink RX2 21 "OutcastBench" "actual" "LOutcastBench$CacheAndBench;", .fieldLink RX2 98 "OutcastBench$CacheAndBench" "setCount" "I"] ++ wsX20 ++ wsX00)
def wsX2_places : List Cond := .code yX2_places cX2_places 1 (some .int) :: ([.fieldLink RX2 21 "OutcastBench" "actual" "LOutcastBench$CacheAndBench;", .fieldLink RX2 101 "OutcastBench$CacheAndBench" "placeCount" "I"] ++ wsX20 ++ wsX00)
def wsX2_lineIn : List Cond := .code yX2_lineIn cX2_lineIn 2 (some .int) :: ([.fieldLink RX2 21 "OutcastBench" "actual" "LOutcastBench$CacheAndBench;", .fieldLink RX2 87 "OutcastBench$CacheAndBench" "lines" "[I", .methodLink RX2 84 yX2_requireSet, .instanceMethod yX2_requireSet, .selects RX2 yX2_requireSet yX2_requireSet, .initialized RX2, .code yX2_requireSet cX2_requireSet 2 none, .classLink RX2 107 "java/lang/IndexOutOfBoundsException", .initialized "java/lang/IndexOutOfBoundsException", .fieldLink RX2 98 "OutcastBench$CacheAndBench" "setCount" "I"] ++ wsX20 ++ wsX00 ++ (vx_atS RX2 111 "java/lang/IndexOutOfBoundsException" ["java/lang/RuntimeException", "java/lang/Exception"]).filter goodWord)
def wsX2_sitting : List Cond := .code yX2_sitting cX2_sitting 1 (some .int) :: ([.fieldLink RX2 21 "OutcastBench" "actual" "LOutcastBench$CacheAndBench;", .fieldLink RX2 104 "OutcastBench$CacheAndBench" "seated" "I"] ++ wsX20 ++ wsX00)
def wsX2_lineOnBench : List Cond := .code yX2_lineOnBench cX2_lineOnBench 2 (some .int) :: ([.classLink RX2 107 "java/lang/IndexOutOfBoundsException", .initialized "java/lang/IndexOutOfBoundsException", .fieldLink RX2 21 "OutcastBench" "actual" "LOutcastBench$CacheAndBench;", .fieldLink RX2 104 "OutcastBench$CacheAndBench" "seated" "I", .fieldLink RX2 112 "OutcastBench$CacheAndBench" "bench" "[I"] ++ wsX20 ++ wsX00 ++ (vx_atS RX2 111 "java/lang/IndexOutOfBoundsException" ["java/lang/RuntimeException", "java/lang/Exception"]).filter goodWord)
def wsX2_requireLine : List Cond := .code yX2_requireLine cX2_requireLine 1 none :: ([.classLink RX2 107 "java/lang/IndexOutOfBoundsException", .initialized "java/lang/IndexOutOfBoundsException"] ++ (vx_atS RX2 111 "java/lang/IndexOutOfBoundsException" ["java/lang/RuntimeException", "java/lang/Exception"]).filter goodWord)
def wsX2_placeOf : List Cond := .code yX2_placeOf cX2_placeOf 2 (some .int) :: ([.fieldLink RX2 21 "OutcastBench" "actual" "LOutcastBench$CacheAndBench;", .methodLink RX2 115 yX2_requireLine, .static yX2_requireLine, .initialized RX2, .code yX2_requireLine cX2_requireLine 1 none, .classLink RX2 107 "java/lang/IndexOutOfBoundsException", .initialized "java/lang/IndexOutOfBoundsException", .methodLink RX2 118 yX0_whereIs, .instanceMethod yX0_whereIs, .selects RX0 yX0_whereIs yX0_whereIs, .initialized RX0, .code yX0_whereIs cX0_whereIs 2 (some .int), .fieldLink RX0 9 "OutcastBench$CacheAndBench" "lines" "[I", .methodLink RX0 42 yX0_setOf, .instanceMethod yX0_setOf, .selects RX0 yX0_setOf yX0_setOf, .code yX0_setOf cX0_setOf 2 (some .int), .fieldLink RX0 26 "OutcastBench$CacheAndBench" "setCount" "I", .methodLink RX0 52 yX0_seatOf, .instanceMethod yX0_seatOf, .selects RX0 yX0_seatOf yX0_seatOf, .code yX0_seatOf cX0_seatOf 3 (some .int), .fieldLink RX0 39 "OutcastBench$CacheAndBench" "seated" "I", .fieldLink RX0 15 "OutcastBench$CacheAndBench" "bench" "[I"] ++ wsX20 ++ wsX00 ++ (vx_atS RX2 111 "java/lang/IndexOutOfBoundsException" ["java/lang/RuntimeException", "java/lang/Exception"]).filter goodWord)
def wsX2_isDirty : List Cond := .code yX2_isDirty cX2_isDirty 2 (some .boolean) :: ([.fieldLink RX2 21 "OutcastBench" "actual" "LOutcastBench$CacheAndBench;", .fieldLink RX2 47 "OutcastBench$CacheAndBench" "dirtyLines" "[Z", .methodLink RX2 115 yX2_requireLine, .static yX2_requireLine, .initialized RX2, .code yX2_requireLine cX2_requireLine 1 none, .classLink RX2 107 "java/lang/IndexOutOfBoundsException", .initialized "java/lang/IndexOutOfBoundsException"] ++ wsX20 ++ wsX00 ++ (vx_atS RX2 111 "java/lang/IndexOutOfBoundsException" ["java/lang/RuntimeException", "java/lang/Exception"]).filter goodWord)
def wsX2_dirty : List Cond := .code yX2_dirty cX2_dirty 1 (some .int) :: ([.fieldLink RX2 21 "OutcastBench" "actual" "LOutcastBench$CacheAndBench;", .methodLink RX2 121 yX0_countDirty, .instanceMethod yX0_countDirty, .selects RX0 yX0_countDirty yX0_countDirty, .initialized RX0, .code yX0_countDirty cX0_countDirty 3 (some .int), .fieldLink RX0 18 "OutcastBench$CacheAndBench" "dirtyLines" "[Z"] ++ wsX20 ++ wsX00)
def wsX2_atHome : List Cond := .code yX2_atHome cX2_atHome 2 (some .int) :: ([.fieldLink RX2 21 "OutcastBench" "actual" "LOutcastBench$CacheAndBench;", .fieldLink RX2 47 "OutcastBench$CacheAndBench" "dirtyLines" "[Z", .fieldLink RX2 13 "OutcastBench" "home" "[I", .fieldLink RX2 9 "OutcastBench" "written" "[I", .methodLink RX2 35 yX2_requireWord, .static yX2_requireWord, .initialized RX2, .code yX2_requireWord cX2_requireWord 1 none, .classLink RX2 107 "java/lang/IndexOutOfBoundsException", .initialized "java/lang/IndexOutOfBoundsException", .methodLink RX2 39 yX2_lineOf, .static yX2_lineOf, .code yX2_lineOf cX2_lineOf 1 (some .int)] ++ wsX20 ++ wsX00 ++ (vx_atS RX2 111 "java/lang/IndexOutOfBoundsException" ["java/lang/RuntimeException", "java/lang/Exception"]).filter goodWord)
def wsX2_peek : List Cond := .code yX2_peek cX2_peek 2 (some .int) :: ([.fieldLink RX2 9 "OutcastBench" "written" "[I", .methodLink RX2 35 yX2_requireWord, .static yX2_requireWord, .initialized RX2, .code yX2_requireWord cX2_requireWord 1 none, .classLink RX2 107 "java/lang/IndexOutOfBoundsException", .initialized "java/lang/IndexOutOfBoundsException"] ++ wsX20 ++ (vx_atS RX2 111 "java/lang/IndexOutOfBoundsException" ["java/lang/RuntimeException", "java/lang/Exception"]).filter goodWord)
def wsX2_hits : List Cond := .code yX2_hits cX2_hits 1 (some .int) :: ([.fieldLink RX2 21 "OutcastBench" "actual" "LOutcastBench$CacheAndBench;", .fieldLink RX2 124 "OutcastBench$CacheAndBench" "hitCount" "I"] ++ wsX20 ++ wsX00)
def wsX2_swaps : List Cond := .code yX2_swaps cX2_swaps 1 (some .int) :: ([.fieldLink RX2 21 "OutcastBench" "actual" "LOutcastBench$CacheAndBench;", .fieldLink RX2 127 "OutcastBench$CacheAndBench" "swapCount" "I"] ++ wsX20 ++ wsX00)
def wsX2_misses : List Cond := .code yX2_misses cX2_misses 1 (some .int) :: ([.fieldLink RX2 21 "OutcastBench" "actual" "LOutcastBench$CacheAndBench;", .fieldLink RX2 130 "OutcastBench$CacheAndBench" "missCount" "I"] ++ wsX20 ++ wsX00)
def wsX2_homecomings : List Cond := .code yX2_homecomings cX2_homecomings 1 (some .int) :: ([.fieldLink RX2 21 "OutcastBench" "actual" "LOutcastBench$CacheAndBench;", .fieldLink RX2 133 "OutcastBench$CacheAndBench" "homecomingCount" "I"] ++ wsX20 ++ wsX00)
def wsX2_cost : List Cond := .code yX2_cost cX2_cost 1 (some .int) :: ([.fieldLink RX2 21 "OutcastBench" "actual" "LOutcastBench$CacheAndBench;", .fieldLink RX2 61 "OutcastBench$CacheAndBench" "costSoFar" "I"] ++ wsX20 ++ wsX00)
def wsX2_costOfTrial_r1 : List Cond := [Cond.fieldLink RX2 25 "OutcastBench" "trial" "LOutcastBench$CacheAndBench;", Cond.fieldLink RX2 61 "OutcastBench$CacheAndBench" "costSoFar" "I", Cond.fieldLink RX2 31 "OutcastBench" "last" "LOutcastBench$LastAccesses;", Cond.fieldLink RX2 151 "OutcastBench$LastAccesses" "count" "I", Cond.fieldLink RX2 157 "OutcastBench$LastAccesses" "lines" "[I", Cond.fieldLink RX2 158 "OutcastBench$LastAccesses" "writes" "[Z", Cond.methodLink RX2 81 yX0_startEmpty, Cond.instanceMethod yX0_startEmpty, Cond.selects RX0 yX0_startEmpty yX0_startEmpty, Cond.initialized RX0, Cond.code yX0_startEmpty cX0_startEmpty 4 none, Cond.fieldLink RX0 26 "OutcastBench$CacheAndBench" "setCount" "I", Cond.fieldLink RX0 30 "OutcastBench$CacheAndBench" "placeCount" "I", Cond.fieldLink RX0 9 "OutcastBench$CacheAndBench" "lines" "[I", Cond.fieldLink RX0 39 "OutcastBench$CacheAndBench" "seated" "I", Cond.fieldLink RX0 18 "OutcastBench$CacheAndBench" "dirtyLines" "[Z", Cond.methodLink RX0 33 yJ7_fill_53178, Cond.static yJ7_fill_53178, Cond.initialized RJ7, Cond.code yJ7_fill_53178 cJ7_fill_53178 4 none, Cond.methodLink RX2 154 yX1_slotOf, Cond.instanceMethod yX1_slotOf, Cond.selects RX1 yX1_slotOf yX1_slotOf, Cond.initialized RX1]
def wsX2_costOfTrial_r2 : List Cond := [Cond.code yX1_slotOf cX1_slotOf 3 (some .int), Cond.fieldLink RX1 23 "OutcastBench$LastAccesses" "count" "I", Cond.fieldLink RX1 19 "OutcastBench$LastAccesses" "next" "I", Cond.methodLink RX2 139 yX0_access, Cond.instanceMethod yX0_access, Cond.selects RX0 yX0_access yX0_access, Cond.code yX0_access cX0_access 5 none, Cond.fieldLink RX0 46 "OutcastBench$CacheAndBench" "hitCount" "I", Cond.fieldLink RX0 49 "OutcastBench$CacheAndBench" "costSoFar" "I", Cond.fieldLink RX0 55 "OutcastBench$CacheAndBench" "missCount" "I", Cond.fieldLink RX0 58 "OutcastBench$CacheAndBench" "swapCount" "I", Cond.methodLink RX0 42 yX0_setOf, Cond.instanceMethod yX0_setOf, Cond.selects RX0 yX0_setOf yX0_setOf, Cond.code yX0_setOf cX0_setOf 2 (some .int), Cond.methodLink RX0 52 yX0_seatOf, Cond.instanceMethod yX0_seatOf, Cond.selects RX0 yX0_seatOf yX0_seatOf, Cond.code yX0_seatOf cX0_seatOf 3 (some .int), Cond.fieldLink RX0 15 "OutcastBench$CacheAndBench" "bench" "[I", Cond.methodLink RX0 61 yX0_leaveBench, Cond.instanceMethod yX0_leaveBench, Cond.selects RX0 yX0_leaveBench yX0_leaveBench, Cond.code yX0_leaveBench cX0_leaveBench 3 none]
def wsX2_costOfTrial_r3 : List Cond := [Cond.methodLink RX0 65 yX0_throwOut, Cond.instanceMethod yX0_throwOut, Cond.selects RX0 yX0_throwOut yX0_throwOut, Cond.code yX0_throwOut cX0_throwOut 3 none, Cond.methodLink RX0 68 yX0_bringHomeIfDirty, Cond.instanceMethod yX0_bringHomeIfDirty, Cond.selects RX0 yX0_bringHomeIfDirty yX0_bringHomeIfDirty, Cond.code yX0_bringHomeIfDirty cX0_bringHomeIfDirty 2 none, Cond.fieldLink RX0 71 "OutcastBench$CacheAndBench" "homecomingCount" "I"]
def wsX2_costOfTrial : List Cond := .code yX2_costOfTrial cX2_costOfTrial 6 (some .int) :: ((wsX2_costOfTrial_r1 ++ (wsX2_costOfTrial_r2 ++ wsX2_costOfTrial_r3)) ++ wsX20 ++ wsX00 ++ wsX10)
def wsX2_wouldCost_r1 : List Cond := [Cond.methodLink RX2 75 yX2_requireSize, Cond.static yX2_requireSize, Cond.initialized RX2, Cond.code yX2_requireSize cX2_requireSize 3 none, Cond.classLink RX2 54 "java/lang/IllegalArgumentException", Cond.initialized "java/lang/IllegalArgumentException", Cond.methodLink RX2 136 yX2_costOfTrial, Cond.instanceMethod yX2_costOfTrial, Cond.selects RX2 yX2_costOfTrial yX2_costOfTrial, Cond.code yX2_costOfTrial cX2_costOfTrial 6 (some .int), Cond.fieldLink RX2 25 "OutcastBench" "trial" "LOutcastBench$CacheAndBench;", Cond.fieldLink RX2 61 "OutcastBench$CacheAndBench" "costSoFar" "I", Cond.fieldLink RX2 31 "OutcastBench" "last" "LOutcastBench$LastAccesses;", Cond.fieldLink RX2 151 "OutcastBench$LastAccesses" "count" "I", Cond.fieldLink RX2 157 "OutcastBench$LastAccesses" "lines" "[I", Cond.fieldLink RX2 158 "OutcastBench$LastAccesses" "writes" "[Z", Cond.methodLink RX2 81 yX0_startEmpty, Cond.instanceMethod yX0_startEmpty, Cond.selects RX0 yX0_startEmpty yX0_startEmpty, Cond.initialized RX0, Cond.code yX0_startEmpty cX0_startEmpty 4 none, Cond.fieldLink RX0 26 "OutcastBench$CacheAndBench" "setCount" "I", Cond.fieldLink RX0 30 "OutcastBench$CacheAndBench" "placeCount" "I", Cond.fieldLink RX0 9 "OutcastBench$CacheAndBench" "lines" "[I"]
def wsX2_wouldCost_r2 : List Cond := [Cond.fieldLink RX0 39 "OutcastBench$CacheAndBench" "seated" "I", Cond.fieldLink RX0 18 "OutcastBench$CacheAndBench" "dirtyLines" "[Z", Cond.methodLink RX0 33 yJ7_fill_53178, Cond.static yJ7_fill_53178, Cond.initialized RJ7, Cond.code yJ7_fill_53178 cJ7_fill_53178 4 none, Cond.methodLink RX2 154 yX1_slotOf, Cond.instanceMethod yX1_slotOf, Cond.selects RX1 yX1_slotOf yX1_slotOf, Cond.initialized RX1, Cond.code yX1_slotOf cX1_slotOf 3 (some .int), Cond.fieldLink RX1 23 "OutcastBench$LastAccesses" "count" "I", Cond.fieldLink RX1 19 "OutcastBench$LastAccesses" "next" "I", Cond.methodLink RX2 139 yX0_access, Cond.instanceMethod yX0_access, Cond.selects RX0 yX0_access yX0_access, Cond.code yX0_access cX0_access 5 none, Cond.fieldLink RX0 46 "OutcastBench$CacheAndBench" "hitCount" "I", Cond.fieldLink RX0 49 "OutcastBench$CacheAndBench" "costSoFar" "I", Cond.fieldLink RX0 55 "OutcastBench$CacheAndBench" "missCount" "I", Cond.fieldLink RX0 58 "OutcastBench$CacheAndBench" "swapCount" "I", Cond.methodLink RX0 42 yX0_setOf, Cond.instanceMethod yX0_setOf, Cond.selects RX0 yX0_setOf yX0_setOf]
def wsX2_wouldCost_r3 : List Cond := [Cond.code yX0_setOf cX0_setOf 2 (some .int), Cond.methodLink RX0 52 yX0_seatOf, Cond.instanceMethod yX0_seatOf, Cond.selects RX0 yX0_seatOf yX0_seatOf, Cond.code yX0_seatOf cX0_seatOf 3 (some .int), Cond.fieldLink RX0 15 "OutcastBench$CacheAndBench" "bench" "[I", Cond.methodLink RX0 61 yX0_leaveBench, Cond.instanceMethod yX0_leaveBench, Cond.selects RX0 yX0_leaveBench yX0_leaveBench, Cond.code yX0_leaveBench cX0_leaveBench 3 none, Cond.methodLink RX0 65 yX0_throwOut, Cond.instanceMethod yX0_throwOut, Cond.selects RX0 yX0_throwOut yX0_throwOut, Cond.code yX0_throwOut cX0_throwOut 3 none, Cond.methodLink RX0 68 yX0_bringHomeIfDirty, Cond.instanceMethod yX0_bringHomeIfDirty, Cond.selects RX0 yX0_bringHomeIfDirty yX0_bringHomeIfDirty, Cond.code yX0_bringHomeIfDirty cX0_bringHomeIfDirty 2 none, Cond.fieldLink RX0 71 "OutcastBench$CacheAndBench" "homecomingCount" "I"]
def wsX2_wouldCost : List Cond := .code yX2_wouldCost cX2_wouldCost 3 (some .int) :: ((wsX2_wouldCost_r1 ++ (wsX2_wouldCost_r2 ++ wsX2_wouldCost_r3)) ++ wsX20 ++ wsX00 ++ wsX10 ++ (vx_atS RX2 58 "java/lang/IllegalArgumentException" ["java/lang/RuntimeException", "java/lang/Exception"]).filter goodWord)
def wsX2_bestPlaces_r1 : List Cond := [Cond.fieldLink RX2 21 "OutcastBench" "actual" "LOutcastBench$CacheAndBench;", Cond.fieldLink RX2 98 "OutcastBench$CacheAndBench" "setCount" "I", Cond.methodLink RX2 136 yX2_costOfTrial, Cond.instanceMethod yX2_costOfTrial, Cond.selects RX2 yX2_costOfTrial yX2_costOfTrial, Cond.initialized RX2, Cond.code yX2_costOfTrial cX2_costOfTrial 6 (some .int), Cond.fieldLink RX2 25 "OutcastBench" "trial" "LOutcastBench$CacheAndBench;", Cond.fieldLink RX2 61 "OutcastBench$CacheAndBench" "costSoFar" "I", Cond.fieldLink RX2 31 "OutcastBench" "last" "LOutcastBench$LastAccesses;", Cond.fieldLink RX2 151 "OutcastBench$LastAccesses" "count" "I", Cond.fieldLink RX2 157 "OutcastBench$LastAccesses" "lines" "[I", Cond.fieldLink RX2 158 "OutcastBench$LastAccesses" "writes" "[Z", Cond.methodLink RX2 81 yX0_startEmpty, Cond.instanceMethod yX0_startEmpty, Cond.selects RX0 yX0_startEmpty yX0_startEmpty, Cond.initialized RX0, Cond.code yX0_startEmpty cX0_startEmpty 4 none, Cond.fieldLink RX0 26 "OutcastBench$CacheAndBench" "setCount" "I", Cond.fieldLink RX0 30 "OutcastBench$CacheAndBench" "placeCount" "I", Cond.fieldLink RX0 9 "OutcastBench$CacheAndBench" "lines" "[I", Cond.fieldLink RX0 39 "OutcastBench$CacheAndBench" "seated" "I", Cond.fieldLink RX0 18 "OutcastBench$CacheAndBench" "dirtyLines" "[Z", Cond.methodLink RX0 33 yJ7_fill_53178]
def wsX2_bestPlaces_r2 : List Cond := [Cond.static yJ7_fill_53178, Cond.initialized RJ7, Cond.code yJ7_fill_53178 cJ7_fill_53178 4 none, Cond.methodLink RX2 154 yX1_slotOf, Cond.instanceMethod yX1_slotOf, Cond.selects RX1 yX1_slotOf yX1_slotOf, Cond.initialized RX1, Cond.code yX1_slotOf cX1_slotOf 3 (some .int), Cond.fieldLink RX1 23 "OutcastBench$LastAccesses" "count" "I", Cond.fieldLink RX1 19 "OutcastBench$LastAccesses" "next" "I", Cond.methodLink RX2 139 yX0_access, Cond.instanceMethod yX0_access, Cond.selects RX0 yX0_access yX0_access, Cond.code yX0_access cX0_access 5 none, Cond.fieldLink RX0 46 "OutcastBench$CacheAndBench" "hitCount" "I", Cond.fieldLink RX0 49 "OutcastBench$CacheAndBench" "costSoFar" "I", Cond.fieldLink RX0 55 "OutcastBench$CacheAndBench" "missCount" "I", Cond.fieldLink RX0 58 "OutcastBench$CacheAndBench" "swapCount" "I", Cond.methodLink RX0 42 yX0_setOf, Cond.instanceMethod yX0_setOf, Cond.selects RX0 yX0_setOf yX0_setOf, Cond.code yX0_setOf cX0_setOf 2 (some .int), Cond.methodLink RX0 52 yX0_seatOf, Cond.instanceMethod yX0_seatOf]
def wsX2_bestPlaces_r3 : List Cond := [Cond.selects RX0 yX0_seatOf yX0_seatOf, Cond.code yX0_seatOf cX0_seatOf 3 (some .int), Cond.fieldLink RX0 15 "OutcastBench$CacheAndBench" "bench" "[I", Cond.methodLink RX0 61 yX0_leaveBench, Cond.instanceMethod yX0_leaveBench, Cond.selects RX0 yX0_leaveBench yX0_leaveBench, Cond.code yX0_leaveBench cX0_leaveBench 3 none, Cond.methodLink RX0 65 yX0_throwOut, Cond.instanceMethod yX0_throwOut, Cond.selects RX0 yX0_throwOut yX0_throwOut, Cond.code yX0_throwOut cX0_throwOut 3 none, Cond.methodLink RX0 68 yX0_bringHomeIfDirty, Cond.instanceMethod yX0_bringHomeIfDirty, Cond.selects RX0 yX0_bringHomeIfDirty yX0_bringHomeIfDirty, Cond.code yX0_bringHomeIfDirty cX0_bringHomeIfDirty 2 none, Cond.fieldLink RX0 71 "OutcastBench$CacheAndBench" "homecomingCount" "I"]
def wsX2_bestPlaces : List Cond := .code yX2_bestPlaces cX2_bestPlaces 5 (some .int) :: ((wsX2_bestPlaces_r1 ++ (wsX2_bestPlaces_r2 ++ wsX2_bestPlaces_r3)) ++ wsX20 ++ wsX00 ++ wsX10)
def wsX3_empties : List Cond := .code yX3_empties cX3_empties 3 none :: ([.fieldLink RX3 22 "OutcastBenchModel" "lineOf" "[I", .fieldLink RX3 28 "OutcastBenchModel" "many" "[I", .fieldLink RX3 31 "OutcastBenchModel" "isDirty" "[I"] ++ wsX30)
def wsX3_init : List Cond := .code yX3_init cX3_init 1 none :: ([.methodLink RX3 1 objectInit, .instanceMethod objectInit, .code objectInit ⟨#[0xb1]⟩ 1 none, .arrayClass .int, .fieldLink RX3 7 "OutcastBenchModel" "written" "[I", .fieldLink RX3 13 "OutcastBenchModel" "home" "[I", .fieldLink RX3 16 "OutcastBenchModel" "sets" "[I", .fieldLink RX3 19 "OutcastBenchModel" "places" "[I", .fieldLink RX3 22 "OutcastBenchModel" "lineOf" "[I", .fieldLink RX3 25 "OutcastBenchModel" "bench" "[I", .fieldLink RX3 28 "OutcastBenchModel" "many" "[I", .fieldLink RX3 31 "OutcastBenchModel" "isDirty" "[I", .fieldLink RX3 34 "OutcastBenchModel" "cost" "[I", .fieldLink RX3 37 "OutcastBenchModel" "asked" "[I", .methodLink RX3 40 yX3_empties, .instanceMethod yX3_empties, .selects RX3 yX3_empties yX3_empties, .initialized RX3, .code yX3_empties cX3_empties 3 none] ++ wsX30)
def wsX3_thrown : List Cond := .code yX3_thrown cX3_thrown 1 (some .int) :: ([.fieldLink RX3 44 "OutcastBenchModel" "thrown" "I"] ++ wsX30)
def wsX3_isWord : List Cond := .code yX3_isWord cX3_isWord 1 (some .boolean) :: ([])
def wsX3_isSize : List Cond := .code yX3_isSize cX3_isSize 2 (some .boolean) :: ([])
def wsX3_comesHome : List Cond := .code yX3_comesHome cX3_comesHome 4 none :: ([.fieldLink RX3 34 "OutcastBenchModel" "cost" "[I", .fieldLink RX3 31 "OutcastBenchModel" "isDirty" "[I", .fieldLink RX3 13 "OutcastBenchModel" "home" "[I", .fieldLink RX3 7 "OutcastBenchModel" "written" "[I", .fieldLink RX3 48 "OutcastBenchModel" "homecomings" "I"] ++ wsX30)
def wsX3_goesHome : List Cond := .code yX3_goesHome cX3_goesHome 3 none :: ([.fieldLink RX3 31 "OutcastBenchModel" "isDirty" "[I", .methodLink RX3 51 yX3_comesHome, .instanceMethod yX3_comesHome, .selects RX3 yX3_comesHome yX3_comesHome, .initialized RX3, .code yX3_comesHome cX3_comesHome 4 none, .fieldLink RX3 34 "OutcastBenchModel" "cost" "[I", .fieldLink RX3 13 "OutcastBenchModel" "home" "[I", .fieldLink RX3 7 "OutcastBenchModel" "written" "[I", .fieldLink RX3 48 "OutcastBenchModel" "homecomings" "I"] ++ wsX30)
def wsX3_seat : List Cond := .code yX3_seat cX3_seat 4 (some .int) :: ([.fieldLink RX3 28 "OutcastBenchModel" "many" "[I", .fieldLink RX3 25 "OutcastBenchModel" "bench" "[I"] ++ wsX30)
def wsX3_leavesBench : List Cond := .code yX3_leavesBench cX3_leavesBench 4 none :: ([.fieldLink RX3 28 "OutcastBenchModel" "many" "[I", .fieldLink RX3 25 "OutcastBenchModel" "bench" "[I"] ++ wsX30)
def wsX3_sits : List Cond := .code yX3_sits cX3_sits 4 none :: ([.fieldLink RX3 28 "OutcastBenchModel" "many" "[I", .fieldLink RX3 25 "OutcastBenchModel" "bench" "[I"] ++ wsX30)
def wsX3_throwsOut : List Cond := .code yX3_throwsOut cX3_throwsOut 5 none :: ([.fieldLink RX3 22 "OutcastBenchModel" "lineOf" "[I", .fieldLink RX3 19 "OutcastBenchModel" "places" "[I", .fieldLink RX3 28 "OutcastBenchModel" "many" "[I", .fieldLink RX3 25 "OutcastBenchModel" "bench" "[I", .methodLink RX3 55 yX3_goesHome, .instanceMethod yX3_goesHome, .selects RX3 yX3_goesHome yX3_goesHome, .initialized RX3, .code yX3_goesHome cX3_goesHome 3 none, .fieldLink RX3 31 "OutcastBenchModel" "isDirty" "[I", .methodLink RX3 51 yX3_comesHome, .instanceMethod yX3_comesHome, .selects RX3 yX3_comesHome yX3_comesHome, .code yX3_comesHome cX3_comesHome 4 none, .fieldLink RX3 34 "OutcastBenchModel" "cost" "[I", .fieldLink RX3 13 "OutcastBenchModel" "home" "[I", .fieldLink RX3 7 "OutcastBenchModel" "written" "[I", .fieldLink RX3 48 "OutcastBenchModel" "homecomings" "I", .methodLink RX3 58 yX3_sits, .instanceMethod yX3_sits, .selects RX3 yX3_sits yX3_sits, .code yX3_sits cX3_sits 4 none] ++ wsX30)
def wsX3_access_r1 : List Cond := [Cond.fieldLink RX3 16 "OutcastBenchModel" "sets" "[I", Cond.fieldLink RX3 22 "OutcastBenchModel" "lineOf" "[I", Cond.fieldLink RX3 34 "OutcastBenchModel" "cost" "[I", Cond.methodLink RX3 61 yX3_seat, Cond.instanceMethod yX3_seat, Cond.selects RX3 yX3_seat yX3_seat, Cond.initialized RX3, Cond.code yX3_seat cX3_seat 4 (some .int), Cond.fieldLink RX3 28 "OutcastBenchModel" "many" "[I", Cond.fieldLink RX3 25 "OutcastBenchModel" "bench" "[I", Cond.methodLink RX3 65 yX3_leavesBench, Cond.instanceMethod yX3_leavesBench, Cond.selects RX3 yX3_leavesBench yX3_leavesBench, Cond.code yX3_leavesBench cX3_leavesBench 4 none, Cond.methodLink RX3 58 yX3_sits, Cond.instanceMethod yX3_sits, Cond.selects RX3 yX3_sits yX3_sits, Cond.code yX3_sits cX3_sits 4 none, Cond.methodLink RX3 68 yX3_throwsOut, Cond.instanceMethod yX3_throwsOut, Cond.selects RX3 yX3_throwsOut yX3_throwsOut, Cond.code yX3_throwsOut cX3_throwsOut 5 none, Cond.fieldLink RX3 19 "OutcastBenchModel" "places" "[I", Cond.methodLink RX3 55 yX3_goesHome]
def wsX3_access_r2 : List Cond := [Cond.instanceMethod yX3_goesHome, Cond.selects RX3 yX3_goesHome yX3_goesHome, Cond.code yX3_goesHome cX3_goesHome 3 none, Cond.fieldLink RX3 31 "OutcastBenchModel" "isDirty" "[I", Cond.methodLink RX3 51 yX3_comesHome, Cond.instanceMethod yX3_comesHome, Cond.selects RX3 yX3_comesHome yX3_comesHome, Cond.code yX3_comesHome cX3_comesHome 4 none, Cond.fieldLink RX3 13 "OutcastBenchModel" "home" "[I", Cond.fieldLink RX3 7 "OutcastBenchModel" "written" "[I", Cond.fieldLink RX3 48 "OutcastBenchModel" "homecomings" "I"]
def wsX3_access : List Cond := .code yX3_access cX3_access 6 (some .int) :: ((wsX3_access_r1 ++ wsX3_access_r2) ++ wsX30)
def wsX3_asks_r1 : List Cond := [Cond.fieldLink RX3 74 "OutcastBenchModel" "hits" "I", Cond.fieldLink RX3 77 "OutcastBenchModel" "swaps" "I", Cond.fieldLink RX3 80 "OutcastBenchModel" "misses" "I", Cond.fieldLink RX3 31 "OutcastBenchModel" "isDirty" "[I", Cond.fieldLink RX3 83 "OutcastBenchModel" "askedMany" "I", Cond.fieldLink RX3 37 "OutcastBenchModel" "asked" "[I", Cond.methodLink RX3 71 yX3_access, Cond.instanceMethod yX3_access, Cond.selects RX3 yX3_access yX3_access, Cond.initialized RX3, Cond.code yX3_access cX3_access 6 (some .int), Cond.fieldLink RX3 16 "OutcastBenchModel" "sets" "[I", Cond.fieldLink RX3 22 "OutcastBenchModel" "lineOf" "[I", Cond.fieldLink RX3 34 "OutcastBenchModel" "cost" "[I", Cond.methodLink RX3 61 yX3_seat, Cond.instanceMethod yX3_seat, Cond.selects RX3 yX3_seat yX3_seat, Cond.code yX3_seat cX3_seat 4 (some .int), Cond.fieldLink RX3 28 "OutcastBenchModel" "many" "[I", Cond.fieldLink RX3 25 "OutcastBenchModel" "bench" "[I", Cond.methodLink RX3 65 yX3_leavesBench, Cond.instanceMethod yX3_leavesBench, Cond.selects RX3 yX3_leavesBench yX3_leavesBench, Cond.code yX3_leavesBench cX3_leavesBench 4 none]
def wsX3_asks_r2 : List Cond := [Cond.methodLink RX3 58 yX3_sits, Cond.instanceMethod yX3_sits, Cond.selects RX3 yX3_sits yX3_sits, Cond.code yX3_sits cX3_sits 4 none, Cond.methodLink RX3 68 yX3_throwsOut, Cond.instanceMethod yX3_throwsOut, Cond.selects RX3 yX3_throwsOut yX3_throwsOut, Cond.code yX3_throwsOut cX3_throwsOut 5 none, Cond.fieldLink RX3 19 "OutcastBenchModel" "places" "[I", Cond.methodLink RX3 55 yX3_goesHome, Cond.instanceMethod yX3_goesHome, Cond.selects RX3 yX3_goesHome yX3_goesHome, Cond.code yX3_goesHome cX3_goesHome 3 none, Cond.methodLink RX3 51 yX3_comesHome, Cond.instanceMethod yX3_comesHome, Cond.selects RX3 yX3_comesHome yX3_comesHome, Cond.code yX3_comesHome cX3_comesHome 4 none, Cond.fieldLink RX3 13 "OutcastBenchModel" "home" "[I", Cond.fieldLink RX3 7 "OutcastBenchModel" "written" "[I", Cond.fieldLink RX3 48 "OutcastBenchModel" "homecomings" "I"]
def wsX3_asks : List Cond := .code yX3_asks cX3_asks 5 none :: ((wsX3_asks_r1 ++ wsX3_asks_r2) ++ wsX30)
def wsX3_read_r1 : List Cond := [Cond.fieldLink RX3 44 "OutcastBenchModel" "thrown" "I", Cond.fieldLink RX3 7 "OutcastBenchModel" "written" "[I", Cond.methodLink RX3 86 yX3_isWord, Cond.static yX3_isWord, Cond.initialized RX3, Cond.code yX3_isWord cX3_isWord 1 (some .boolean), Cond.methodLink RX3 90 yX3_asks, Cond.instanceMethod yX3_asks, Cond.selects RX3 yX3_asks yX3_asks, Cond.code yX3_asks cX3_asks 5 none, Cond.fieldLink RX3 74 "OutcastBenchModel" "hits" "I", Cond.fieldLink RX3 77 "OutcastBenchModel" "swaps" "I", Cond.fieldLink RX3 80 "OutcastBenchModel" "misses" "I", Cond.fieldLink RX3 31 "OutcastBenchModel" "isDirty" "[I", Cond.fieldLink RX3 83 "OutcastBenchModel" "askedMany" "I", Cond.fieldLink RX3 37 "OutcastBenchModel" "asked" "[I", Cond.methodLink RX3 71 yX3_access, Cond.instanceMethod yX3_access, Cond.selects RX3 yX3_access yX3_access, Cond.code yX3_access cX3_access 6 (some .int), Cond.fieldLink RX3 16 "OutcastBenchModel" "sets" "[I", Cond.fieldLink RX3 22 "OutcastBenchModel" "lineOf" "[I", Cond.fieldLink RX3 34 "OutcastBenchModel" "cost" "[I", Cond.methodLink RX3 61 yX3_seat]
def wsX3_read_r2 : List Cond := [Cond.instanceMethod yX3_seat, Cond.selects RX3 yX3_seat yX3_seat, Cond.code yX3_seat cX3_seat 4 (some .int), Cond.fieldLink RX3 28 "OutcastBenchModel" "many" "[I", Cond.fieldLink RX3 25 "OutcastBenchModel" "bench" "[I", Cond.methodLink RX3 65 yX3_leavesBench, Cond.instanceMethod yX3_leavesBench, Cond.selects RX3 yX3_leavesBench yX3_leavesBench, Cond.code yX3_leavesBench cX3_leavesBench 4 none, Cond.methodLink RX3 58 yX3_sits, Cond.instanceMethod yX3_sits, Cond.selects RX3 yX3_sits yX3_sits, Cond.code yX3_sits cX3_sits 4 none, Cond.methodLink RX3 68 yX3_throwsOut, Cond.instanceMethod yX3_throwsOut, Cond.selects RX3 yX3_throwsOut yX3_throwsOut, Cond.code yX3_throwsOut cX3_throwsOut 5 none, Cond.fieldLink RX3 19 "OutcastBenchModel" "places" "[I", Cond.methodLink RX3 55 yX3_goesHome, Cond.instanceMethod yX3_goesHome, Cond.selects RX3 yX3_goesHome yX3_goesHome, Cond.code yX3_goesHome cX3_goesHome 3 none, Cond.methodLink RX3 51 yX3_comesHome, Cond.instanceMethod yX3_comesHome]
def wsX3_read_r3 : List Cond := [Cond.selects RX3 yX3_comesHome yX3_comesHome, Cond.code yX3_comesHome cX3_comesHome 4 none, Cond.fieldLink RX3 13 "OutcastBenchModel" "home" "[I", Cond.fieldLink RX3 48 "OutcastBenchModel" "homecomings" "I"]
def wsX3_read : List Cond := .code yX3_read cX3_read 2 (some .int) :: ((wsX3_read_r1 ++ (wsX3_read_r2 ++ wsX3_read_r3)) ++ wsX30)
def wsX3_write_r1 : List Cond := [Cond.fieldLink RX3 44 "OutcastBenchModel" "thrown" "I", Cond.fieldLink RX3 7 "OutcastBenchModel" "written" "[I", Cond.methodLink RX3 86 yX3_isWord, Cond.static yX3_isWord, Cond.initialized RX3, Cond.code yX3_isWord cX3_isWord 1 (some .boolean), Cond.methodLink RX3 90 yX3_asks, Cond.instanceMethod yX3_asks, Cond.selects RX3 yX3_asks yX3_asks, Cond.code yX3_asks cX3_asks 5 none, Cond.fieldLink RX3 74 "OutcastBenchModel" "hits" "I", Cond.fieldLink RX3 77 "OutcastBenchModel" "swaps" "I", Cond.fieldLink RX3 80 "OutcastBenchModel" "misses" "I", Cond.fieldLink RX3 31 "OutcastBenchModel" "isDirty" "[I", Cond.fieldLink RX3 83 "OutcastBenchModel" "askedMany" "I", Cond.fieldLink RX3 37 "OutcastBenchModel" "asked" "[I", Cond.methodLink RX3 71 yX3_access, Cond.instanceMethod yX3_access, Cond.selects RX3 yX3_access yX3_access, Cond.code yX3_access cX3_access 6 (some .int), Cond.fieldLink RX3 16 "OutcastBenchModel" "sets" "[I", Cond.fieldLink RX3 22 "OutcastBenchModel" "lineOf" "[I", Cond.fieldLink RX3 34 "OutcastBenchModel" "cost" "[I", Cond.methodLink RX3 61 yX3_seat]
def wsX3_write_r2 : List Cond := [Cond.instanceMethod yX3_seat, Cond.selects RX3 yX3_seat yX3_seat, Cond.code yX3_seat cX3_seat 4 (some .int), Cond.fieldLink RX3 28 "OutcastBenchModel" "many" "[I", Cond.fieldLink RX3 25 "OutcastBenchModel" "bench" "[I", Cond.methodLink RX3 65 yX3_leavesBench, Cond.instanceMethod yX3_leavesBench, Cond.selects RX3 yX3_leavesBench yX3_leavesBench, Cond.code yX3_leavesBench cX3_leavesBench 4 none, Cond.methodLink RX3 58 yX3_sits, Cond.instanceMethod yX3_sits, Cond.selects RX3 yX3_sits yX3_sits, Cond.code yX3_sits cX3_sits 4 none, Cond.methodLink RX3 68 yX3_throwsOut, Cond.instanceMethod yX3_throwsOut, Cond.selects RX3 yX3_throwsOut yX3_throwsOut, Cond.code yX3_throwsOut cX3_throwsOut 5 none, Cond.fieldLink RX3 19 "OutcastBenchModel" "places" "[I", Cond.methodLink RX3 55 yX3_goesHome, Cond.instanceMethod yX3_goesHome, Cond.selects RX3 yX3_goesHome yX3_goesHome, Cond.code yX3_goesHome cX3_goesHome 3 none, Cond.methodLink RX3 51 yX3_comesHome, Cond.instanceMethod yX3_comesHome]
def wsX3_write_r3 : List Cond := [Cond.selects RX3 yX3_comesHome yX3_comesHome, Cond.code yX3_comesHome cX3_comesHome 4 none, Cond.fieldLink RX3 13 "OutcastBenchModel" "home" "[I", Cond.fieldLink RX3 48 "OutcastBenchModel" "homecomings" "I"]
def wsX3_write : List Cond := .code yX3_write cX3_write 4 (some .int) :: ((wsX3_write_r1 ++ (wsX3_write_r2 ++ wsX3_write_r3)) ++ wsX30)
def wsX3_walk_r1 : List Cond := [Cond.fieldLink RX3 44 "OutcastBenchModel" "thrown" "I", Cond.fieldLink RX3 34 "OutcastBenchModel" "cost" "[I", Cond.methodLink RX3 86 yX3_isWord, Cond.static yX3_isWord, Cond.initialized RX3, Cond.code yX3_isWord cX3_isWord 1 (some .boolean), Cond.methodLink RX3 90 yX3_asks, Cond.instanceMethod yX3_asks, Cond.selects RX3 yX3_asks yX3_asks, Cond.code yX3_asks cX3_asks 5 none, Cond.fieldLink RX3 74 "OutcastBenchModel" "hits" "I", Cond.fieldLink RX3 77 "OutcastBenchModel" "swaps" "I", Cond.fieldLink RX3 80 "OutcastBenchModel" "misses" "I", Cond.fieldLink RX3 31 "OutcastBenchModel" "isDirty" "[I", Cond.fieldLink RX3 83 "OutcastBenchModel" "askedMany" "I", Cond.fieldLink RX3 37 "OutcastBenchModel" "asked" "[I", Cond.methodLink RX3 71 yX3_access, Cond.instanceMethod yX3_access, Cond.selects RX3 yX3_access yX3_access, Cond.code yX3_access cX3_access 6 (some .int), Cond.fieldLink RX3 16 "OutcastBenchModel" "sets" "[I", Cond.fieldLink RX3 22 "OutcastBenchModel" "lineOf" "[I", Cond.methodLink RX3 61 yX3_seat, Cond.instanceMethod yX3_seat]
def wsX3_walk_r2 : List Cond := [Cond.selects RX3 yX3_seat yX3_seat, Cond.code yX3_seat cX3_seat 4 (some .int), Cond.fieldLink RX3 28 "OutcastBenchModel" "many" "[I", Cond.fieldLink RX3 25 "OutcastBenchModel" "bench" "[I", Cond.methodLink RX3 65 yX3_leavesBench, Cond.instanceMethod yX3_leavesBench, Cond.selects RX3 yX3_leavesBench yX3_leavesBench, Cond.code yX3_leavesBench cX3_leavesBench 4 none, Cond.methodLink RX3 58 yX3_sits, Cond.instanceMethod yX3_sits, Cond.selects RX3 yX3_sits yX3_sits, Cond.code yX3_sits cX3_sits 4 none, Cond.methodLink RX3 68 yX3_throwsOut, Cond.instanceMethod yX3_throwsOut, Cond.selects RX3 yX3_throwsOut yX3_throwsOut, Cond.code yX3_throwsOut cX3_throwsOut 5 none, Cond.fieldLink RX3 19 "OutcastBenchModel" "places" "[I", Cond.methodLink RX3 55 yX3_goesHome, Cond.instanceMethod yX3_goesHome, Cond.selects RX3 yX3_goesHome yX3_goesHome, Cond.code yX3_goesHome cX3_goesHome 3 none, Cond.methodLink RX3 51 yX3_comesHome, Cond.instanceMethod yX3_comesHome, Cond.selects RX3 yX3_comesHome yX3_comesHome]
def wsX3_walk_r3 : List Cond := [Cond.code yX3_comesHome cX3_comesHome 4 none, Cond.fieldLink RX3 13 "OutcastBenchModel" "home" "[I", Cond.fieldLink RX3 7 "OutcastBenchModel" "written" "[I", Cond.fieldLink RX3 48 "OutcastBenchModel" "homecomings" "I"]
def wsX3_walk : List Cond := .code yX3_walk cX3_walk 7 (some .int) :: ((wsX3_walk_r1 ++ (wsX3_walk_r2 ++ wsX3_walk_r3)) ++ wsX30)
def wsX3_bringsHome : List Cond := .code yX3_bringsHome cX3_bringsHome 3 (some .int) :: ([.fieldLink RX3 31 "OutcastBenchModel" "isDirty" "[I", .methodLink RX3 51 yX3_comesHome, .instanceMethod yX3_comesHome, .selects RX3 yX3_comesHome yX3_comesHome, .initialized RX3, .code yX3_comesHome cX3_comesHome 4 none, .fieldLink RX3 34 "OutcastBenchModel" "cost" "[I", .fieldLink RX3 13 "OutcastBenchModel" "home" "[I", .fieldLink RX3 7 "OutcastBenchModel" "written" "[I", .fieldLink RX3 48 "OutcastBenchModel" "homecomings" "I"] ++ wsX30)
def wsX3_bringHome : List Cond := .code yX3_bringHome cX3_bringHome 1 (some .int) :: ([.fieldLink RX3 44 "OutcastBenchModel" "thrown" "I", .methodLink RX3 94 yX3_bringsHome, .instanceMethod yX3_bringsHome, .selects RX3 yX3_bringsHome yX3_bringsHome, .initialized RX3, .code yX3_bringsHome cX3_bringsHome 3 (some .int), .fieldLink RX3 31 "OutcastBenchModel" "isDirty" "[I", .methodLink RX3 51 yX3_comesHome, .instanceMethod yX3_comesHome, .selects RX3 yX3_comesHome yX3_comesHome, .code yX3_comesHome cX3_comesHome 4 none, .fieldLink RX3 34 "OutcastBenchModel" "cost" "[I", .fieldLink RX3 13 "OutcastBenchModel" "home" "[I", .fieldLink RX3 7 "OutcastBenchModel" "written" "[I", .fieldLink RX3 48 "OutcastBenchModel" "homecomings" "I"] ++ wsX30)
def wsX3_inCache : List Cond := .code yX3_inCache cX3_inCache 3 (some .int) :: ([.fieldLink RX3 16 "OutcastBenchModel" "sets" "[I", .fieldLink RX3 22 "OutcastBenchModel" "lineOf" "[I"] ++ wsX30)
def wsX3_build_r1 : List Cond := [Cond.fieldLink RX3 44 "OutcastBenchModel" "thrown" "I", Cond.fieldLink RX3 28 "OutcastBenchModel" "many" "[I", Cond.fieldLink RX3 16 "OutcastBenchModel" "sets" "[I", Cond.fieldLink RX3 19 "OutcastBenchModel" "places" "[I", Cond.methodLink RX3 98 yX3_isSize, Cond.static yX3_isSize, Cond.initialized RX3, Cond.code yX3_isSize cX3_isSize 2 (some .boolean), Cond.methodLink RX3 94 yX3_bringsHome, Cond.instanceMethod yX3_bringsHome, Cond.selects RX3 yX3_bringsHome yX3_bringsHome, Cond.code yX3_bringsHome cX3_bringsHome 3 (some .int), Cond.fieldLink RX3 31 "OutcastBenchModel" "isDirty" "[I", Cond.methodLink RX3 51 yX3_comesHome, Cond.instanceMethod yX3_comesHome, Cond.selects RX3 yX3_comesHome yX3_comesHome, Cond.code yX3_comesHome cX3_comesHome 4 none, Cond.fieldLink RX3 34 "OutcastBenchModel" "cost" "[I", Cond.fieldLink RX3 13 "OutcastBenchModel" "home" "[I", Cond.fieldLink RX3 7 "OutcastBenchModel" "written" "[I", Cond.fieldLink RX3 48 "OutcastBenchModel" "homecomings" "I", Cond.methodLink RX3 102 yX3_inCache, Cond.instanceMethod yX3_inCache, Cond.selects RX3 yX3_inCache yX3_inCache]
def wsX3_build_r2 : List Cond := [Cond.code yX3_inCache cX3_inCache 3 (some .int), Cond.fieldLink RX3 22 "OutcastBenchModel" "lineOf" "[I", Cond.methodLink RX3 40 yX3_empties, Cond.instanceMethod yX3_empties, Cond.selects RX3 yX3_empties yX3_empties, Cond.code yX3_empties cX3_empties 3 none]
def wsX3_build : List Cond := .code yX3_build cX3_build 5 (some .int) :: ((wsX3_build_r1 ++ wsX3_build_r2) ++ wsX30)
def wsX3_isSet : List Cond := .code yX3_isSet cX3_isSet 2 (some .boolean) :: ([.fieldLink RX3 16 "OutcastBenchModel" "sets" "[I"] ++ wsX30)
def wsX3_cast_r1 : List Cond := [Cond.fieldLink RX3 22 "OutcastBenchModel" "lineOf" "[I", Cond.fieldLink RX3 44 "OutcastBenchModel" "thrown" "I", Cond.methodLink RX3 105 yX3_isSet, Cond.instanceMethod yX3_isSet, Cond.selects RX3 yX3_isSet yX3_isSet, Cond.initialized RX3, Cond.code yX3_isSet cX3_isSet 2 (some .boolean), Cond.fieldLink RX3 16 "OutcastBenchModel" "sets" "[I", Cond.methodLink RX3 68 yX3_throwsOut, Cond.instanceMethod yX3_throwsOut, Cond.selects RX3 yX3_throwsOut yX3_throwsOut, Cond.code yX3_throwsOut cX3_throwsOut 5 none, Cond.fieldLink RX3 19 "OutcastBenchModel" "places" "[I", Cond.fieldLink RX3 28 "OutcastBenchModel" "many" "[I", Cond.fieldLink RX3 25 "OutcastBenchModel" "bench" "[I", Cond.methodLink RX3 55 yX3_goesHome, Cond.instanceMethod yX3_goesHome, Cond.selects RX3 yX3_goesHome yX3_goesHome, Cond.code yX3_goesHome cX3_goesHome 3 none, Cond.fieldLink RX3 31 "OutcastBenchModel" "isDirty" "[I", Cond.methodLink RX3 51 yX3_comesHome, Cond.instanceMethod yX3_comesHome, Cond.selects RX3 yX3_comesHome yX3_comesHome, Cond.code yX3_comesHome cX3_comesHome 4 none]
def wsX3_cast_r2 : List Cond := [Cond.fieldLink RX3 34 "OutcastBenchModel" "cost" "[I", Cond.fieldLink RX3 13 "OutcastBenchModel" "home" "[I", Cond.fieldLink RX3 7 "OutcastBenchModel" "written" "[I", Cond.fieldLink RX3 48 "OutcastBenchModel" "homecomings" "I", Cond.methodLink RX3 58 yX3_sits, Cond.instanceMethod yX3_sits, Cond.selects RX3 yX3_sits yX3_sits, Cond.code yX3_sits cX3_sits 4 none]
def wsX3_cast : List Cond := .code yX3_cast cX3_cast 3 (some .int) :: ((wsX3_cast_r1 ++ wsX3_cast_r2) ++ wsX30)
def wsX3_sets : List Cond := .code yX3_sets cX3_sets 1 (some .int) :: ([.fieldLink RX3 44 "OutcastBenchModel" "thrown" "I", .fieldLink RX3 16 "OutcastBenchModel" "sets" "[I"] ++ wsX30)
def wsX3_places : List Cond := .code yX3_places cX3_places 1 (some .int) :: ([.fieldLink RX3 44 "OutcastBenchModel" "thrown" "I", .fieldLink RX3 19 "OutcastBenchModel" "places" "[I"] ++ wsX30)
def wsX3_lineIn : List Cond := .code yX3_lineIn cX3_lineIn 2 (some .int) :: ([.fieldLink RX3 44 "OutcastBenchModel" "thrown" "I", .fieldLink RX3 22 "OutcastBenchModel" "lineOf" "[I", .methodLink RX3 105 yX3_isSet, .instanceMethod yX3_isSet, .selects RX3 yX3_isSet yX3_isSet, .initialized RX3, .code yX3_isSet cX3_isSet 2 (some .boolean), .fieldLink RX3 16 "OutcastBenchModel" "sets" "[I"] ++ wsX30)
def wsX3_sitting : List Cond := .code yX3_sitting cX3_sitting 1 (some .int) :: ([.fieldLink RX3 44 "OutcastBenchModel" "thrown" "I", .fieldLink RX3 28 "OutcastBenchModel" "many" "[I"] ++ wsX30)
def wsX3_lineOnBench : List Cond := .code yX3_lineOnBench cX3_lineOnBench 2 (some .int) :: ([.fieldLink RX3 28 "OutcastBenchModel" "many" "[I", .fieldLink RX3 44 "OutcastBenchModel" "thrown" "I", .fieldLink RX3 25 "OutcastBenchModel" "bench" "[I"] ++ wsX30)
def wsX3_isLine : List Cond := .code yX3_isLine cX3_isLine 2 (some .boolean) :: ([.fieldLink RX3 44 "OutcastBenchModel" "thrown" "I"] ++ wsX30)
def wsX3_placeOf : List Cond := .code yX3_placeOf cX3_placeOf 2 (some .int) :: ([.fieldLink RX3 22 "OutcastBenchModel" "lineOf" "[I", .fieldLink RX3 16 "OutcastBenchModel" "sets" "[I", .methodLink RX3 108 yX3_isLine, .instanceMethod yX3_isLine, .selects RX3 yX3_isLine yX3_isLine, .initialized RX3, .code yX3_isLine cX3_isLine 2 (some .boolean), .fieldLink RX3 44 "OutcastBenchModel" "thrown" "I", .methodLink RX3 61 yX3_seat, .instanceMethod yX3_seat, .selects RX3 yX3_seat yX3_seat, .code yX3_seat cX3_seat 4 (some .int), .fieldLink RX3 28 "OutcastBenchModel" "many" "[I", .fieldLink RX3 25 "OutcastBenchModel" "bench" "[I"] ++ wsX30)
def wsX3_isDirty : List Cond := .code yX3_isDirty cX3_isDirty 2 (some .boolean) :: ([.fieldLink RX3 31 "OutcastBenchModel" "isDirty" "[I", .methodLink RX3 108 yX3_isLine, .instanceMethod yX3_isLine, .selects RX3 yX3_isLine yX3_isLine, .initialized RX3, .code yX3_isLine cX3_isLine 2 (some .boolean), .fieldLink RX3 44 "OutcastBenchModel" "thrown" "I"] ++ wsX30)
def wsX3_dirty : List Cond := .code yX3_dirty cX3_dirty 3 (some .int) :: ([.fieldLink RX3 44 "OutcastBenchModel" "thrown" "I", .fieldLink RX3 31 "OutcastBenchModel" "isDirty" "[I"] ++ wsX30)
def wsX3_atHome : List Cond := .code yX3_atHome cX3_atHome 2 (some .int) :: ([.fieldLink RX3 44 "OutcastBenchModel" "thrown" "I", .fieldLink RX3 13 "OutcastBenchModel" "home" "[I", .methodLink RX3 86 yX3_isWord, .static yX3_isWord, .initialized RX3, .code yX3_isWord cX3_isWord 1 (some .boolean)] ++ wsX30)
def wsX3_peek : List Cond := .code yX3_peek cX3_peek 2 (some .int) :: ([.fieldLink RX3 44 "OutcastBenchModel" "thrown" "I", .fieldLink RX3 7 "OutcastBenchModel" "written" "[I", .methodLink RX3 86 yX3_isWord, .static yX3_isWord, .initialized RX3, .code yX3_isWord cX3_isWord 1 (some .boolean)] ++ wsX30)
def wsX3_hits : List Cond := .code yX3_hits cX3_hits 1 (some .int) :: ([.fieldLink RX3 44 "OutcastBenchModel" "thrown" "I", .fieldLink RX3 74 "OutcastBenchModel" "hits" "I"] ++ wsX30)
def wsX3_swaps : List Cond := .code yX3_swaps cX3_swaps 1 (some .int) :: ([.fieldLink RX3 44 "OutcastBenchModel" "thrown" "I", .fieldLink RX3 77 "OutcastBenchModel" "swaps" "I"] ++ wsX30)
def wsX3_misses : List Cond := .code yX3_misses cX3_misses 1 (some .int) :: ([.fieldLink RX3 44 "OutcastBenchModel" "thrown" "I", .fieldLink RX3 80 "OutcastBenchModel" "misses" "I"] ++ wsX30)
def wsX3_homecomings : List Cond := .code yX3_homecomings cX3_homecomings 1 (some .int) :: ([.fieldLink RX3 44 "OutcastBenchModel" "thrown" "I", .fieldLink RX3 48 "OutcastBenchModel" "homecomings" "I"] ++ wsX30)
def wsX3_cost : List Cond := .code yX3_cost cX3_cost 1 (some .int) :: ([.fieldLink RX3 44 "OutcastBenchModel" "thrown" "I", .fieldLink RX3 34 "OutcastBenchModel" "cost" "[I"] ++ wsX30)
def wsX3_tried_r1 : List Cond := [Cond.fieldLink RX3 16 "OutcastBenchModel" "sets" "[I", Cond.fieldLink RX3 19 "OutcastBenchModel" "places" "[I", Cond.fieldLink RX3 34 "OutcastBenchModel" "cost" "[I", Cond.fieldLink RX3 83 "OutcastBenchModel" "askedMany" "I", Cond.fieldLink RX3 37 "OutcastBenchModel" "asked" "[I", Cond.fieldLink RX3 31 "OutcastBenchModel" "isDirty" "[I", Cond.methodLink RX3 40 yX3_empties, Cond.instanceMethod yX3_empties, Cond.selects RX3 yX3_empties yX3_empties, Cond.initialized RX3, Cond.code yX3_empties cX3_empties 3 none, Cond.fieldLink RX3 22 "OutcastBenchModel" "lineOf" "[I", Cond.fieldLink RX3 28 "OutcastBenchModel" "many" "[I", Cond.methodLink RX3 71 yX3_access, Cond.instanceMethod yX3_access, Cond.selects RX3 yX3_access yX3_access, Cond.code yX3_access cX3_access 6 (some .int), Cond.methodLink RX3 61 yX3_seat, Cond.instanceMethod yX3_seat, Cond.selects RX3 yX3_seat yX3_seat, Cond.code yX3_seat cX3_seat 4 (some .int), Cond.fieldLink RX3 25 "OutcastBenchModel" "bench" "[I", Cond.methodLink RX3 65 yX3_leavesBench, Cond.instanceMethod yX3_leavesBench]
def wsX3_tried_r2 : List Cond := [Cond.selects RX3 yX3_leavesBench yX3_leavesBench, Cond.code yX3_leavesBench cX3_leavesBench 4 none, Cond.methodLink RX3 58 yX3_sits, Cond.instanceMethod yX3_sits, Cond.selects RX3 yX3_sits yX3_sits, Cond.code yX3_sits cX3_sits 4 none, Cond.methodLink RX3 68 yX3_throwsOut, Cond.instanceMethod yX3_throwsOut, Cond.selects RX3 yX3_throwsOut yX3_throwsOut, Cond.code yX3_throwsOut cX3_throwsOut 5 none, Cond.methodLink RX3 55 yX3_goesHome, Cond.instanceMethod yX3_goesHome, Cond.selects RX3 yX3_goesHome yX3_goesHome, Cond.code yX3_goesHome cX3_goesHome 3 none, Cond.methodLink RX3 51 yX3_comesHome, Cond.instanceMethod yX3_comesHome, Cond.selects RX3 yX3_comesHome yX3_comesHome, Cond.code yX3_comesHome cX3_comesHome 4 none, Cond.fieldLink RX3 13 "OutcastBenchModel" "home" "[I", Cond.fieldLink RX3 7 "OutcastBenchModel" "written" "[I", Cond.fieldLink RX3 48 "OutcastBenchModel" "homecomings" "I"]
def wsX3_tried : List Cond := .code yX3_tried cX3_tried 6 (some .int) :: ((wsX3_tried_r1 ++ wsX3_tried_r2) ++ wsX30)
def wsX3_wouldCost_r1 : List Cond := [Cond.fieldLink RX3 44 "OutcastBenchModel" "thrown" "I", Cond.methodLink RX3 98 yX3_isSize, Cond.static yX3_isSize, Cond.initialized RX3, Cond.code yX3_isSize cX3_isSize 2 (some .boolean), Cond.methodLink RX3 111 yX3_tried, Cond.instanceMethod yX3_tried, Cond.selects RX3 yX3_tried yX3_tried, Cond.code yX3_tried cX3_tried 6 (some .int), Cond.fieldLink RX3 16 "OutcastBenchModel" "sets" "[I", Cond.fieldLink RX3 19 "OutcastBenchModel" "places" "[I", Cond.fieldLink RX3 34 "OutcastBenchModel" "cost" "[I", Cond.fieldLink RX3 83 "OutcastBenchModel" "askedMany" "I", Cond.fieldLink RX3 37 "OutcastBenchModel" "asked" "[I", Cond.fieldLink RX3 31 "OutcastBenchModel" "isDirty" "[I", Cond.methodLink RX3 40 yX3_empties, Cond.instanceMethod yX3_empties, Cond.selects RX3 yX3_empties yX3_empties, Cond.code yX3_empties cX3_empties 3 none, Cond.fieldLink RX3 22 "OutcastBenchModel" "lineOf" "[I", Cond.fieldLink RX3 28 "OutcastBenchModel" "many" "[I", Cond.methodLink RX3 71 yX3_access, Cond.instanceMethod yX3_access, Cond.selects RX3 yX3_access yX3_access]
def wsX3_wouldCost_r2 : List Cond := [Cond.code yX3_access cX3_access 6 (some .int), Cond.methodLink RX3 61 yX3_seat, Cond.instanceMethod yX3_seat, Cond.selects RX3 yX3_seat yX3_seat, Cond.code yX3_seat cX3_seat 4 (some .int), Cond.fieldLink RX3 25 "OutcastBenchModel" "bench" "[I", Cond.methodLink RX3 65 yX3_leavesBench, Cond.instanceMethod yX3_leavesBench, Cond.selects RX3 yX3_leavesBench yX3_leavesBench, Cond.code yX3_leavesBench cX3_leavesBench 4 none, Cond.methodLink RX3 58 yX3_sits, Cond.instanceMethod yX3_sits, Cond.selects RX3 yX3_sits yX3_sits, Cond.code yX3_sits cX3_sits 4 none, Cond.methodLink RX3 68 yX3_throwsOut, Cond.instanceMethod yX3_throwsOut, Cond.selects RX3 yX3_throwsOut yX3_throwsOut, Cond.code yX3_throwsOut cX3_throwsOut 5 none, Cond.methodLink RX3 55 yX3_goesHome, Cond.instanceMethod yX3_goesHome, Cond.selects RX3 yX3_goesHome yX3_goesHome, Cond.code yX3_goesHome cX3_goesHome 3 none, Cond.methodLink RX3 51 yX3_comesHome, Cond.instanceMethod yX3_comesHome]
def wsX3_wouldCost_r3 : List Cond := [Cond.selects RX3 yX3_comesHome yX3_comesHome, Cond.code yX3_comesHome cX3_comesHome 4 none, Cond.fieldLink RX3 13 "OutcastBenchModel" "home" "[I", Cond.fieldLink RX3 7 "OutcastBenchModel" "written" "[I", Cond.fieldLink RX3 48 "OutcastBenchModel" "homecomings" "I"]
def wsX3_wouldCost : List Cond := .code yX3_wouldCost cX3_wouldCost 3 (some .int) :: ((wsX3_wouldCost_r1 ++ (wsX3_wouldCost_r2 ++ wsX3_wouldCost_r3)) ++ wsX30)
def wsX3_bestPlaces_r1 : List Cond := [Cond.fieldLink RX3 44 "OutcastBenchModel" "thrown" "I", Cond.fieldLink RX3 16 "OutcastBenchModel" "sets" "[I", Cond.methodLink RX3 111 yX3_tried, Cond.instanceMethod yX3_tried, Cond.selects RX3 yX3_tried yX3_tried, Cond.initialized RX3, Cond.code yX3_tried cX3_tried 6 (some .int), Cond.fieldLink RX3 19 "OutcastBenchModel" "places" "[I", Cond.fieldLink RX3 34 "OutcastBenchModel" "cost" "[I", Cond.fieldLink RX3 83 "OutcastBenchModel" "askedMany" "I", Cond.fieldLink RX3 37 "OutcastBenchModel" "asked" "[I", Cond.fieldLink RX3 31 "OutcastBenchModel" "isDirty" "[I", Cond.methodLink RX3 40 yX3_empties, Cond.instanceMethod yX3_empties, Cond.selects RX3 yX3_empties yX3_empties, Cond.code yX3_empties cX3_empties 3 none, Cond.fieldLink RX3 22 "OutcastBenchModel" "lineOf" "[I", Cond.fieldLink RX3 28 "OutcastBenchModel" "many" "[I", Cond.methodLink RX3 71 yX3_access, Cond.instanceMethod yX3_access, Cond.selects RX3 yX3_access yX3_access, Cond.code yX3_access cX3_access 6 (some .int), Cond.methodLink RX3 61 yX3_seat, Cond.instanceMethod yX3_seat]
def wsX3_bestPlaces_r2 : List Cond := [Cond.selects RX3 yX3_seat yX3_seat, Cond.code yX3_seat cX3_seat 4 (some .int), Cond.fieldLink RX3 25 "OutcastBenchModel" "bench" "[I", Cond.methodLink RX3 65 yX3_leavesBench, Cond.instanceMethod yX3_leavesBench, Cond.selects RX3 yX3_leavesBench yX3_leavesBench, Cond.code yX3_leavesBench cX3_leavesBench 4 none, Cond.methodLink RX3 58 yX3_sits, Cond.instanceMethod yX3_sits, Cond.selects RX3 yX3_sits yX3_sits, Cond.code yX3_sits cX3_sits 4 none, Cond.methodLink RX3 68 yX3_throwsOut, Cond.instanceMethod yX3_throwsOut, Cond.selects RX3 yX3_throwsOut yX3_throwsOut, Cond.code yX3_throwsOut cX3_throwsOut 5 none, Cond.methodLink RX3 55 yX3_goesHome, Cond.instanceMethod yX3_goesHome, Cond.selects RX3 yX3_goesHome yX3_goesHome, Cond.code yX3_goesHome cX3_goesHome 3 none, Cond.methodLink RX3 51 yX3_comesHome, Cond.instanceMethod yX3_comesHome, Cond.selects RX3 yX3_comesHome yX3_comesHome, Cond.code yX3_comesHome cX3_comesHome 4 none, Cond.fieldLink RX3 13 "OutcastBenchModel" "home" "[I"]
def wsX3_bestPlaces_r3 : List Cond := [Cond.fieldLink RX3 7 "OutcastBenchModel" "written" "[I", Cond.fieldLink RX3 48 "OutcastBenchModel" "homecomings" "I"]
def wsX3_bestPlaces : List Cond := .code yX3_bestPlaces cX3_bestPlaces 5 (some .int) :: ((wsX3_bestPlaces_r1 ++ (wsX3_bestPlaces_r2 ++ wsX3_bestPlaces_r3)) ++ wsX30)
def wsL_read_r1 : List Cond := [Cond.classLink RL 13 "java/lang/IndexOutOfBoundsException", Cond.methodLink RL 7 yX2_read, Cond.instanceMethod yX2_read, Cond.selects RX2 yX2_read yX2_read, Cond.initialized RX2, Cond.code yX2_read cX2_read 2 (some .int), Cond.fieldLink RX2 9 "OutcastBench" "written" "[I", Cond.methodLink RX2 35 yX2_requireWord, Cond.static yX2_requireWord, Cond.code yX2_requireWord cX2_requireWord 1 none, Cond.classLink RX2 107 "java/lang/IndexOutOfBoundsException", Cond.initialized "java/lang/IndexOutOfBoundsException", Cond.methodLink RX2 39 yX2_lineOf, Cond.static yX2_lineOf, Cond.code yX2_lineOf cX2_lineOf 1 (some .int), Cond.methodLink RX2 43 yX2_ask, Cond.instanceMethod yX2_ask, Cond.selects RX2 yX2_ask yX2_ask, Cond.code yX2_ask cX2_ask 3 none, Cond.fieldLink RX2 21 "OutcastBench" "actual" "LOutcastBench$CacheAndBench;", Cond.fieldLink RX2 31 "OutcastBench" "last" "LOutcastBench$LastAccesses;", Cond.methodLink RX2 139 yX0_access, Cond.instanceMethod yX0_access, Cond.selects RX0 yX0_access yX0_access]
def wsL_read_r2 : List Cond := [Cond.initialized RX0, Cond.code yX0_access cX0_access 5 none, Cond.fieldLink RX0 9 "OutcastBench$CacheAndBench" "lines" "[I", Cond.fieldLink RX0 46 "OutcastBench$CacheAndBench" "hitCount" "I", Cond.fieldLink RX0 49 "OutcastBench$CacheAndBench" "costSoFar" "I", Cond.fieldLink RX0 55 "OutcastBench$CacheAndBench" "missCount" "I", Cond.fieldLink RX0 58 "OutcastBench$CacheAndBench" "swapCount" "I", Cond.fieldLink RX0 18 "OutcastBench$CacheAndBench" "dirtyLines" "[Z", Cond.methodLink RX0 42 yX0_setOf, Cond.instanceMethod yX0_setOf, Cond.selects RX0 yX0_setOf yX0_setOf, Cond.code yX0_setOf cX0_setOf 2 (some .int), Cond.fieldLink RX0 26 "OutcastBench$CacheAndBench" "setCount" "I", Cond.methodLink RX0 52 yX0_seatOf, Cond.instanceMethod yX0_seatOf, Cond.selects RX0 yX0_seatOf yX0_seatOf, Cond.code yX0_seatOf cX0_seatOf 3 (some .int), Cond.fieldLink RX0 39 "OutcastBench$CacheAndBench" "seated" "I", Cond.fieldLink RX0 15 "OutcastBench$CacheAndBench" "bench" "[I", Cond.methodLink RX0 61 yX0_leaveBench, Cond.instanceMethod yX0_leaveBench, Cond.selects RX0 yX0_leaveBench yX0_leaveBench, Cond.code yX0_leaveBench cX0_leaveBench 3 none, Cond.methodLink RX0 65 yX0_throwOut]
def wsL_read_r3 : List Cond := [Cond.instanceMethod yX0_throwOut, Cond.selects RX0 yX0_throwOut yX0_throwOut, Cond.code yX0_throwOut cX0_throwOut 3 none, Cond.fieldLink RX0 30 "OutcastBench$CacheAndBench" "placeCount" "I", Cond.methodLink RX0 68 yX0_bringHomeIfDirty, Cond.instanceMethod yX0_bringHomeIfDirty, Cond.selects RX0 yX0_bringHomeIfDirty yX0_bringHomeIfDirty, Cond.code yX0_bringHomeIfDirty cX0_bringHomeIfDirty 2 none, Cond.fieldLink RX0 71 "OutcastBench$CacheAndBench" "homecomingCount" "I", Cond.methodLink RX2 142 yX1_add, Cond.instanceMethod yX1_add, Cond.selects RX1 yX1_add yX1_add, Cond.initialized RX1, Cond.code yX1_add cX1_add 3 none, Cond.fieldLink RX1 9 "OutcastBench$LastAccesses" "lines" "[I", Cond.fieldLink RX1 19 "OutcastBench$LastAccesses" "next" "I", Cond.fieldLink RX1 15 "OutcastBench$LastAccesses" "writes" "[Z", Cond.fieldLink RX1 23 "OutcastBench$LastAccesses" "count" "I"]
def wsL_read : List Cond := .codeWith yL_read cL_read 4 (some .int) [(0, 9, 12, 13)] :: ((wsL_read_r1 ++ (wsL_read_r2 ++ wsL_read_r3)) ++ wsX20 ++ wsX00 ++ wsX10 ++ (vx_atS RX2 111 "java/lang/IndexOutOfBoundsException" ["java/lang/RuntimeException", "java/lang/Exception"]).filter goodWord)
def wsL_write_r1 : List Cond := [Cond.classLink RL 13 "java/lang/IndexOutOfBoundsException", Cond.methodLink RL 15 yX2_write, Cond.instanceMethod yX2_write, Cond.selects RX2 yX2_write yX2_write, Cond.initialized RX2, Cond.code yX2_write cX2_write 5 (some .int), Cond.fieldLink RX2 21 "OutcastBench" "actual" "LOutcastBench$CacheAndBench;", Cond.fieldLink RX2 47 "OutcastBench$CacheAndBench" "dirtyLines" "[Z", Cond.fieldLink RX2 9 "OutcastBench" "written" "[I", Cond.methodLink RX2 35 yX2_requireWord, Cond.static yX2_requireWord, Cond.code yX2_requireWord cX2_requireWord 1 none, Cond.classLink RX2 107 "java/lang/IndexOutOfBoundsException", Cond.initialized "java/lang/IndexOutOfBoundsException", Cond.methodLink RX2 39 yX2_lineOf, Cond.static yX2_lineOf, Cond.code yX2_lineOf cX2_lineOf 1 (some .int), Cond.methodLink RX2 51 yX2_keepHomeWords, Cond.instanceMethod yX2_keepHomeWords, Cond.selects RX2 yX2_keepHomeWords yX2_keepHomeWords, Cond.code yX2_keepHomeWords cX2_keepHomeWords 3 none, Cond.fieldLink RX2 13 "OutcastBench" "home" "[I", Cond.methodLink RX2 145 arraycopyName, Cond.native arraycopyName]
def wsL_write_r2 : List Cond := [Cond.static arraycopyName, Cond.initialized "java/lang/System", Cond.methodLink RX2 43 yX2_ask, Cond.instanceMethod yX2_ask, Cond.selects RX2 yX2_ask yX2_ask, Cond.code yX2_ask cX2_ask 3 none, Cond.fieldLink RX2 31 "OutcastBench" "last" "LOutcastBench$LastAccesses;", Cond.methodLink RX2 139 yX0_access, Cond.instanceMethod yX0_access, Cond.selects RX0 yX0_access yX0_access, Cond.initialized RX0, Cond.code yX0_access cX0_access 5 none, Cond.fieldLink RX0 9 "OutcastBench$CacheAndBench" "lines" "[I", Cond.fieldLink RX0 46 "OutcastBench$CacheAndBench" "hitCount" "I", Cond.fieldLink RX0 49 "OutcastBench$CacheAndBench" "costSoFar" "I", Cond.fieldLink RX0 55 "OutcastBench$CacheAndBench" "missCount" "I", Cond.fieldLink RX0 58 "OutcastBench$CacheAndBench" "swapCount" "I", Cond.fieldLink RX0 18 "OutcastBench$CacheAndBench" "dirtyLines" "[Z", Cond.methodLink RX0 42 yX0_setOf, Cond.instanceMethod yX0_setOf, Cond.selects RX0 yX0_setOf yX0_setOf, Cond.code yX0_setOf cX0_setOf 2 (some .int), Cond.fieldLink RX0 26 "OutcastBench$CacheAndBench" "setCount" "I", Cond.methodLink RX0 52 yX0_seatOf]
def wsL_write_r3 : List Cond := [Cond.instanceMethod yX0_seatOf, Cond.selects RX0 yX0_seatOf yX0_seatOf, Cond.code yX0_seatOf cX0_seatOf 3 (some .int), Cond.fieldLink RX0 39 "OutcastBench$CacheAndBench" "seated" "I", Cond.fieldLink RX0 15 "OutcastBench$CacheAndBench" "bench" "[I", Cond.methodLink RX0 61 yX0_leaveBench, Cond.instanceMethod yX0_leaveBench, Cond.selects RX0 yX0_leaveBench yX0_leaveBench, Cond.code yX0_leaveBench cX0_leaveBench 3 none, Cond.methodLink RX0 65 yX0_throwOut, Cond.instanceMethod yX0_throwOut, Cond.selects RX0 yX0_throwOut yX0_throwOut, Cond.code yX0_throwOut cX0_throwOut 3 none, Cond.fieldLink RX0 30 "OutcastBench$CacheAndBench" "placeCount" "I", Cond.methodLink RX0 68 yX0_bringHomeIfDirty, Cond.instanceMethod yX0_bringHomeIfDirty, Cond.selects RX0 yX0_bringHomeIfDirty yX0_bringHomeIfDirty, Cond.code yX0_bringHomeIfDirty cX0_bringHomeIfDirty 2 none, Cond.fieldLink RX0 71 "OutcastBench$CacheAndBench" "homecomingCount" "I", Cond.methodLink RX2 142 yX1_add, Cond.instanceMethod yX1_add, Cond.selects RX1 yX1_add yX1_add, Cond.initialized RX1, Cond.code yX1_add cX1_add 3 none]
def wsL_write_r4 : List Cond := [Cond.fieldLink RX1 9 "OutcastBench$LastAccesses" "lines" "[I", Cond.fieldLink RX1 19 "OutcastBench$LastAccesses" "next" "I", Cond.fieldLink RX1 15 "OutcastBench$LastAccesses" "writes" "[Z", Cond.fieldLink RX1 23 "OutcastBench$LastAccesses" "count" "I"]
def wsL_write : List Cond := .codeWith yL_write cL_write 5 (some .int) [(0, 10, 13, 13)] :: ((wsL_write_r1 ++ (wsL_write_r2 ++ (wsL_write_r3 ++ wsL_write_r4))) ++ wsX20 ++ wsX00 ++ wsX10 ++ (vx_atS RX2 111 "java/lang/IndexOutOfBoundsException" ["java/lang/RuntimeException", "java/lang/Exception"]).filter goodWord)
def wsL_walk_r1 : List Cond := [Cond.classLink RL 13 "java/lang/IndexOutOfBoundsException", Cond.classLink RL 23 "java/lang/IllegalArgumentException", Cond.methodLink RL 19 yX2_walk, Cond.instanceMethod yX2_walk, Cond.selects RX2 yX2_walk yX2_walk, Cond.initialized RX2, Cond.code yX2_walk cX2_walk 7 (some .int), Cond.classLink RX2 54 "java/lang/IllegalArgumentException", Cond.initialized "java/lang/IllegalArgumentException", Cond.fieldLink RX2 21 "OutcastBench" "actual" "LOutcastBench$CacheAndBench;", Cond.fieldLink RX2 61 "OutcastBench$CacheAndBench" "costSoFar" "I", Cond.methodLink RX2 35 yX2_requireWord, Cond.static yX2_requireWord, Cond.code yX2_requireWord cX2_requireWord 1 none, Cond.classLink RX2 107 "java/lang/IndexOutOfBoundsException", Cond.initialized "java/lang/IndexOutOfBoundsException", Cond.methodLink RX2 39 yX2_lineOf, Cond.static yX2_lineOf, Cond.code yX2_lineOf cX2_lineOf 1 (some .int), Cond.methodLink RX2 43 yX2_ask, Cond.instanceMethod yX2_ask, Cond.selects RX2 yX2_ask yX2_ask, Cond.code yX2_ask cX2_ask 3 none, Cond.fieldLink RX2 31 "OutcastBench" "last" "LOutcastBench$LastAccesses;"]
def wsL_walk_r2 : List Cond := [Cond.methodLink RX2 139 yX0_access, Cond.instanceMethod yX0_access, Cond.selects RX0 yX0_access yX0_access, Cond.initialized RX0, Cond.code yX0_access cX0_access 5 none, Cond.fieldLink RX0 9 "OutcastBench$CacheAndBench" "lines" "[I", Cond.fieldLink RX0 46 "OutcastBench$CacheAndBench" "hitCount" "I", Cond.fieldLink RX0 49 "OutcastBench$CacheAndBench" "costSoFar" "I", Cond.fieldLink RX0 55 "OutcastBench$CacheAndBench" "missCount" "I", Cond.fieldLink RX0 58 "OutcastBench$CacheAndBench" "swapCount" "I", Cond.fieldLink RX0 18 "OutcastBench$CacheAndBench" "dirtyLines" "[Z", Cond.methodLink RX0 42 yX0_setOf, Cond.instanceMethod yX0_setOf, Cond.selects RX0 yX0_setOf yX0_setOf, Cond.code yX0_setOf cX0_setOf 2 (some .int), Cond.fieldLink RX0 26 "OutcastBench$CacheAndBench" "setCount" "I", Cond.methodLink RX0 52 yX0_seatOf, Cond.instanceMethod yX0_seatOf, Cond.selects RX0 yX0_seatOf yX0_seatOf, Cond.code yX0_seatOf cX0_seatOf 3 (some .int), Cond.fieldLink RX0 39 "OutcastBench$CacheAndBench" "seated" "I", Cond.fieldLink RX0 15 "OutcastBench$CacheAndBench" "bench" "[I", Cond.methodLink RX0 61 yX0_leaveBench, Cond.instanceMethod yX0_leaveBench]
def wsL_walk_r3 : List Cond := [Cond.selects RX0 yX0_leaveBench yX0_leaveBench, Cond.code yX0_leaveBench cX0_leaveBench 3 none, Cond.methodLink RX0 65 yX0_throwOut, Cond.instanceMethod yX0_throwOut, Cond.selects RX0 yX0_throwOut yX0_throwOut, Cond.code yX0_throwOut cX0_throwOut 3 none, Cond.fieldLink RX0 30 "OutcastBench$CacheAndBench" "placeCount" "I", Cond.methodLink RX0 68 yX0_bringHomeIfDirty, Cond.instanceMethod yX0_bringHomeIfDirty, Cond.selects RX0 yX0_bringHomeIfDirty yX0_bringHomeIfDirty, Cond.code yX0_bringHomeIfDirty cX0_bringHomeIfDirty 2 none, Cond.fieldLink RX0 71 "OutcastBench$CacheAndBench" "homecomingCount" "I", Cond.methodLink RX2 142 yX1_add, Cond.instanceMethod yX1_add, Cond.selects RX1 yX1_add yX1_add, Cond.initialized RX1, Cond.code yX1_add cX1_add 3 none, Cond.fieldLink RX1 9 "OutcastBench$LastAccesses" "lines" "[I", Cond.fieldLink RX1 19 "OutcastBench$LastAccesses" "next" "I", Cond.fieldLink RX1 15 "OutcastBench$LastAccesses" "writes" "[Z", Cond.fieldLink RX1 23 "OutcastBench$LastAccesses" "count" "I", Cond.methodLink RX2 65 yJ9_floorMod_7cf53, Cond.static yJ9_floorMod_7cf53, Cond.initialized RJ9]
def wsL_walk_r4 : List Cond := [Cond.code yJ9_floorMod_7cf53 cJ9_floorMod_7cf53 3 (some .int)]
def wsL_walk : List Cond := .codeWith yL_walk cL_walk 6 (some .int) [(0, 12, 15, 13), (0, 12, 19, 23)] :: ((wsL_walk_r1 ++ (wsL_walk_r2 ++ (wsL_walk_r3 ++ wsL_walk_r4))) ++ wsX20 ++ wsX00 ++ wsX10 ++ (vx_atS RX2 58 "java/lang/IllegalArgumentException" ["java/lang/RuntimeException", "java/lang/Exception"]).filter goodWord ++ (vx_atS RX2 111 "java/lang/IndexOutOfBoundsException" ["java/lang/RuntimeException", "java/lang/Exception"]).filter goodWord)
def wsL_build_r1 : List Cond := [Cond.classLink RL 23 "java/lang/IllegalArgumentException", Cond.methodLink RL 25 yX2_build, Cond.instanceMethod yX2_build, Cond.selects RX2 yX2_build yX2_build, Cond.initialized RX2, Cond.code yX2_build cX2_build 4 (some .int), Cond.fieldLink RX2 21 "OutcastBench" "actual" "LOutcastBench$CacheAndBench;", Cond.methodLink RX2 75 yX2_requireSize, Cond.static yX2_requireSize, Cond.code yX2_requireSize cX2_requireSize 3 none, Cond.classLink RX2 54 "java/lang/IllegalArgumentException", Cond.initialized "java/lang/IllegalArgumentException", Cond.methodLink RX2 78 yX0_countLines, Cond.instanceMethod yX0_countLines, Cond.selects RX0 yX0_countLines yX0_countLines, Cond.initialized RX0, Cond.code yX0_countLines cX0_countLines 3 (some .int), Cond.fieldLink RX0 39 "OutcastBench$CacheAndBench" "seated" "I", Cond.fieldLink RX0 26 "OutcastBench$CacheAndBench" "setCount" "I", Cond.fieldLink RX0 9 "OutcastBench$CacheAndBench" "lines" "[I", Cond.methodLink RX2 71 yX0_bringAllHome, Cond.instanceMethod yX0_bringAllHome, Cond.selects RX0 yX0_bringAllHome yX0_bringAllHome, Cond.code yX0_bringAllHome cX0_bringAllHome 3 (some .int)]
def wsL_build_r2 : List Cond := [Cond.fieldLink RX0 71 "OutcastBench$CacheAndBench" "homecomingCount" "I", Cond.fieldLink RX0 15 "OutcastBench$CacheAndBench" "bench" "[I", Cond.methodLink RX0 68 yX0_bringHomeIfDirty, Cond.instanceMethod yX0_bringHomeIfDirty, Cond.selects RX0 yX0_bringHomeIfDirty yX0_bringHomeIfDirty, Cond.code yX0_bringHomeIfDirty cX0_bringHomeIfDirty 2 none, Cond.fieldLink RX0 18 "OutcastBench$CacheAndBench" "dirtyLines" "[Z", Cond.fieldLink RX0 49 "OutcastBench$CacheAndBench" "costSoFar" "I", Cond.methodLink RX2 81 yX0_startEmpty, Cond.instanceMethod yX0_startEmpty, Cond.selects RX0 yX0_startEmpty yX0_startEmpty, Cond.code yX0_startEmpty cX0_startEmpty 4 none, Cond.fieldLink RX0 30 "OutcastBench$CacheAndBench" "placeCount" "I", Cond.methodLink RX0 33 yJ7_fill_53178, Cond.static yJ7_fill_53178, Cond.initialized RJ7, Cond.code yJ7_fill_53178 cJ7_fill_53178 4 none]
def wsL_build : List Cond := .codeWith yL_build cL_build 5 (some .int) [(0, 10, 13, 23)] :: ((wsL_build_r1 ++ wsL_build_r2) ++ wsX20 ++ wsX00 ++ (vx_atS RX2 58 "java/lang/IllegalArgumentException" ["java/lang/RuntimeException", "java/lang/Exception"]).filter goodWord)
def wsL_cast_r1 : List Cond := [Cond.classLink RL 13 "java/lang/IndexOutOfBoundsException", Cond.classLink RL 31 "java/lang/IllegalStateException", Cond.methodLink RL 28 yX2_cast, Cond.instanceMethod yX2_cast, Cond.selects RX2 yX2_cast yX2_cast, Cond.initialized RX2, Cond.code yX2_cast cX2_cast 3 (some .int), Cond.classLink RX2 90 "java/lang/IllegalStateException", Cond.initialized "java/lang/IllegalStateException", Cond.fieldLink RX2 21 "OutcastBench" "actual" "LOutcastBench$CacheAndBench;", Cond.fieldLink RX2 87 "OutcastBench$CacheAndBench" "lines" "[I", Cond.methodLink RX2 84 yX2_requireSet, Cond.instanceMethod yX2_requireSet, Cond.selects RX2 yX2_requireSet yX2_requireSet, Cond.code yX2_requireSet cX2_requireSet 2 none, Cond.classLink RX2 107 "java/lang/IndexOutOfBoundsException", Cond.initialized "java/lang/IndexOutOfBoundsException", Cond.fieldLink RX2 98 "OutcastBench$CacheAndBench" "setCount" "I", Cond.methodLink RX2 95 yX0_throwOut, Cond.instanceMethod yX0_throwOut, Cond.selects RX0 yX0_throwOut yX0_throwOut, Cond.initialized RX0, Cond.code yX0_throwOut cX0_throwOut 3 none, Cond.fieldLink RX0 9 "OutcastBench$CacheAndBench" "lines" "[I"]
def wsL_cast_r2 : List Cond := [Cond.fieldLink RX0 30 "OutcastBench$CacheAndBench" "placeCount" "I", Cond.fieldLink RX0 39 "OutcastBench$CacheAndBench" "seated" "I", Cond.fieldLink RX0 15 "OutcastBench$CacheAndBench" "bench" "[I", Cond.methodLink RX0 68 yX0_bringHomeIfDirty, Cond.instanceMethod yX0_bringHomeIfDirty, Cond.selects RX0 yX0_bringHomeIfDirty yX0_bringHomeIfDirty, Cond.code yX0_bringHomeIfDirty cX0_bringHomeIfDirty 2 none, Cond.fieldLink RX0 18 "OutcastBench$CacheAndBench" "dirtyLines" "[Z", Cond.fieldLink RX0 71 "OutcastBench$CacheAndBench" "homecomingCount" "I", Cond.fieldLink RX0 49 "OutcastBench$CacheAndBench" "costSoFar" "I", Cond.methodLink RX0 61 yX0_leaveBench, Cond.instanceMethod yX0_leaveBench, Cond.selects RX0 yX0_leaveBench yX0_leaveBench, Cond.code yX0_leaveBench cX0_leaveBench 3 none]
def wsL_cast : List Cond := .codeWith yL_cast cL_cast 4 (some .int) [(0, 9, 12, 13), (0, 9, 15, 31)] :: ((wsL_cast_r1 ++ wsL_cast_r2) ++ wsX20 ++ wsX00 ++ (vx_atS RX2 94 "java/lang/IllegalStateException" ["java/lang/RuntimeException", "java/lang/Exception"]).filter goodWord ++ (vx_atS RX2 111 "java/lang/IndexOutOfBoundsException" ["java/lang/RuntimeException", "java/lang/Exception"]).filter goodWord)
def wsL_lineIn : List Cond := .codeWith yL_lineIn cL_lineIn 4 (some .int) [(0, 9, 12, 13)] :: ([.classLink RL 13 "java/lang/IndexOutOfBoundsException", .methodLink RL 33 yX2_lineIn, .instanceMethod yX2_lineIn, .selects RX2 yX2_lineIn yX2_lineIn, .initialized RX2, .code yX2_lineIn cX2_lineIn 2 (some .int), .fieldLink RX2 21 "OutcastBench" "actual" "LOutcastBench$CacheAndBench;", .fieldLink RX2 87 "OutcastBench$CacheAndBench" "lines" "[I", .methodLink RX2 84 yX2_requireSet, .instanceMethod yX2_requireSet, .selects RX2 yX2_requireSet yX2_requireSet, .code yX2_requireSet cX2_requireSet 2 none, .classLink RX2 107 "java/lang/IndexOutOfBoundsException", .initialized "java/lang/IndexOutOfBoundsException", .fieldLink RX2 98 "OutcastBench$CacheAndBench" "setCount" "I"] ++ wsX20 ++ wsX00 ++ (vx_atS RX2 111 "java/lang/IndexOutOfBoundsException" ["java/lang/RuntimeException", "java/lang/Exception"]).filter goodWord)
def wsL_lineOnBench : List Cond := .codeWith yL_lineOnBench cL_lineOnBench 4 (some .int) [(0, 9, 12, 13)] :: ([.classLink RL 13 "java/lang/IndexOutOfBoundsException", .methodLink RL 36 yX2_lineOnBench, .instanceMethod yX2_lineOnBench, .selects RX2 yX2_lineOnBench yX2_lineOnBench, .initialized RX2, .code yX2_lineOnBench cX2_lineOnBench 2 (some .int), .classLink RX2 107 "java/lang/IndexOutOfBoundsException", .initialized "java/lang/IndexOutOfBoundsException", .fieldLink RX2 21 "OutcastBench" "actual" "LOutcastBench$CacheAndBench;", .fieldLink RX2 104 "OutcastBench$CacheAndBench" "seated" "I", .fieldLink RX2 112 "OutcastBench$CacheAndBench" "bench" "[I"] ++ wsX20 ++ wsX00 ++ (vx_atS RX2 111 "java/lang/IndexOutOfBoundsException" ["java/lang/RuntimeException", "java/lang/Exception"]).filter goodWord)
def wsL_placeOf_r1 : List Cond := [Cond.classLink RL 13 "java/lang/IndexOutOfBoundsException", Cond.methodLink RL 39 yX2_placeOf, Cond.instanceMethod yX2_placeOf, Cond.selects RX2 yX2_placeOf yX2_placeOf, Cond.initialized RX2, Cond.code yX2_placeOf cX2_placeOf 2 (some .int), Cond.fieldLink RX2 21 "OutcastBench" "actual" "LOutcastBench$CacheAndBench;", Cond.methodLink RX2 115 yX2_requireLine, Cond.static yX2_requireLine, Cond.code yX2_requireLine cX2_requireLine 1 none, Cond.classLink RX2 107 "java/lang/IndexOutOfBoundsException", Cond.initialized "java/lang/IndexOutOfBoundsException", Cond.methodLink RX2 118 yX0_whereIs, Cond.instanceMethod yX0_whereIs, Cond.selects RX0 yX0_whereIs yX0_whereIs, Cond.initialized RX0, Cond.code yX0_whereIs cX0_whereIs 2 (some .int), Cond.fieldLink RX0 9 "OutcastBench$CacheAndBench" "lines" "[I", Cond.methodLink RX0 42 yX0_setOf, Cond.instanceMethod yX0_setOf, Cond.selects RX0 yX0_setOf yX0_setOf, Cond.code yX0_setOf cX0_setOf 2 (some .int), Cond.fieldLink RX0 26 "OutcastBench$CacheAndBench" "setCount" "I", Cond.methodLink RX0 52 yX0_seatOf]
def wsL_placeOf_r2 : List Cond := [Cond.instanceMethod yX0_seatOf, Cond.selects RX0 yX0_seatOf yX0_seatOf, Cond.code yX0_seatOf cX0_seatOf 3 (some .int), Cond.fieldLink RX0 39 "OutcastBench$CacheAndBench" "seated" "I", Cond.fieldLink RX0 15 "OutcastBench$CacheAndBench" "bench" "[I"]
def wsL_placeOf : List Cond := .codeWith yL_placeOf cL_placeOf 4 (some .int) [(0, 9, 12, 13)] :: ((wsL_placeOf_r1 ++ wsL_placeOf_r2) ++ wsX20 ++ wsX00 ++ (vx_atS RX2 111 "java/lang/IndexOutOfBoundsException" ["java/lang/RuntimeException", "java/lang/Exception"]).filter goodWord)
def wsL_isDirty : List Cond := .codeWith yL_isDirty cL_isDirty 4 (some .int) [(0, 16, 19, 13)] :: ([.classLink RL 13 "java/lang/IndexOutOfBoundsException", .methodLink RL 42 yX2_isDirty, .instanceMethod yX2_isDirty, .selects RX2 yX2_isDirty yX2_isDirty, .initialized RX2, .code yX2_isDirty cX2_isDirty 2 (some .boolean), .fieldLink RX2 21 "OutcastBench" "actual" "LOutcastBench$CacheAndBench;", .fieldLink RX2 47 "OutcastBench$CacheAndBench" "dirtyLines" "[Z", .methodLink RX2 115 yX2_requireLine, .static yX2_requireLine, .code yX2_requireLine cX2_requireLine 1 none, .classLink RX2 107 "java/lang/IndexOutOfBoundsException", .initialized "java/lang/IndexOutOfBoundsException"] ++ wsX20 ++ wsX00 ++ (vx_atS RX2 111 "java/lang/IndexOutOfBoundsException" ["java/lang/RuntimeException", "java/lang/Exception"]).filter goodWord)
def wsL_atHome : List Cond := .codeWith yL_atHome cL_atHome 4 (some .int) [(0, 9, 12, 13)] :: ([.classLink RL 13 "java/lang/IndexOutOfBoundsException", .methodLink RL 46 yX2_atHome, .instanceMethod yX2_atHome, .selects RX2 yX2_atHome yX2_atHome, .initialized RX2, .code yX2_atHome cX2_atHome 2 (some .int), .fieldLink RX2 21 "OutcastBench" "actual" "LOutcastBench$CacheAndBench;", .fieldLink RX2 47 "OutcastBench$CacheAndBench" "dirtyLines" "[Z", .fieldLink RX2 13 "OutcastBench" "home" "[I", .fieldLink RX2 9 "OutcastBench" "written" "[I", .methodLink RX2 35 yX2_requireWord, .static yX2_requireWord, .code yX2_requireWord cX2_requireWord 1 none, .classLink RX2 107 "java/lang/IndexOutOfBoundsException", .initialized "java/lang/IndexOutOfBoundsException", .methodLink RX2 39 yX2_lineOf, .static yX2_lineOf, .code yX2_lineOf cX2_lineOf 1 (some .int)] ++ wsX20 ++ wsX00 ++ (vx_atS RX2 111 "java/lang/IndexOutOfBoundsException" ["java/lang/RuntimeException", "java/lang/Exception"]).filter goodWord)
def wsL_peek : List Cond := .codeWith yL_peek cL_peek 4 (some .int) [(0, 9, 12, 13)] :: ([.classLink RL 13 "java/lang/IndexOutOfBoundsException", .methodLink RL 49 yX2_peek, .instanceMethod yX2_peek, .selects RX2 yX2_peek yX2_peek, .initialized RX2, .code yX2_peek cX2_peek 2 (some .int), .fieldLink RX2 9 "OutcastBench" "written" "[I", .methodLink RX2 35 yX2_requireWord, .static yX2_requireWord, .code yX2_requireWord cX2_requireWord 1 none, .classLink RX2 107 "java/lang/IndexOutOfBoundsException", .initialized "java/lang/IndexOutOfBoundsException"] ++ wsX20 ++ (vx_atS RX2 111 "java/lang/IndexOutOfBoundsException" ["java/lang/RuntimeException", "java/lang/Exception"]).filter goodWord)
def wsL_wouldCost_r1 : List Cond := [Cond.classLink RL 23 "java/lang/IllegalArgumentException", Cond.methodLink RL 52 yX2_wouldCost, Cond.instanceMethod yX2_wouldCost, Cond.selects RX2 yX2_wouldCost yX2_wouldCost, Cond.initialized RX2, Cond.code yX2_wouldCost cX2_wouldCost 3 (some .int), Cond.methodLink RX2 75 yX2_requireSize, Cond.static yX2_requireSize, Cond.code yX2_requireSize cX2_requireSize 3 none, Cond.classLink RX2 54 "java/lang/IllegalArgumentException", Cond.initialized "java/lang/IllegalArgumentException", Cond.methodLink RX2 136 yX2_costOfTrial, Cond.instanceMethod yX2_costOfTrial, Cond.selects RX2 yX2_costOfTrial yX2_costOfTrial, Cond.code yX2_costOfTrial cX2_costOfTrial 6 (some .int), Cond.fieldLink RX2 25 "OutcastBench" "trial" "LOutcastBench$CacheAndBench;", Cond.fieldLink RX2 61 "OutcastBench$CacheAndBench" "costSoFar" "I", Cond.fieldLink RX2 31 "OutcastBench" "last" "LOutcastBench$LastAccesses;", Cond.fieldLink RX2 151 "OutcastBench$LastAccesses" "count" "I", Cond.fieldLink RX2 157 "OutcastBench$LastAccesses" "lines" "[I", Cond.fieldLink RX2 158 "OutcastBench$LastAccesses" "writes" "[Z", Cond.methodLink RX2 81 yX0_startEmpty, Cond.instanceMethod yX0_startEmpty, Cond.selects RX0 yX0_startEmpty yX0_startEmpty]
def wsL_wouldCost_r2 : List Cond := [Cond.initialized RX0, Cond.code yX0_startEmpty cX0_startEmpty 4 none, Cond.fieldLink RX0 26 "OutcastBench$CacheAndBench" "setCount" "I", Cond.fieldLink RX0 30 "OutcastBench$CacheAndBench" "placeCount" "I", Cond.fieldLink RX0 9 "OutcastBench$CacheAndBench" "lines" "[I", Cond.fieldLink RX0 39 "OutcastBench$CacheAndBench" "seated" "I", Cond.fieldLink RX0 18 "OutcastBench$CacheAndBench" "dirtyLines" "[Z", Cond.methodLink RX0 33 yJ7_fill_53178, Cond.static yJ7_fill_53178, Cond.initialized RJ7, Cond.code yJ7_fill_53178 cJ7_fill_53178 4 none, Cond.methodLink RX2 154 yX1_slotOf, Cond.instanceMethod yX1_slotOf, Cond.selects RX1 yX1_slotOf yX1_slotOf, Cond.initialized RX1, Cond.code yX1_slotOf cX1_slotOf 3 (some .int), Cond.fieldLink RX1 23 "OutcastBench$LastAccesses" "count" "I", Cond.fieldLink RX1 19 "OutcastBench$LastAccesses" "next" "I", Cond.methodLink RX2 139 yX0_access, Cond.instanceMethod yX0_access, Cond.selects RX0 yX0_access yX0_access, Cond.code yX0_access cX0_access 5 none, Cond.fieldLink RX0 46 "OutcastBench$CacheAndBench" "hitCount" "I", Cond.fieldLink RX0 49 "OutcastBench$CacheAndBench" "costSoFar" "I"]
def wsL_wouldCost_r3 : List Cond := [Cond.fieldLink RX0 55 "OutcastBench$CacheAndBench" "missCount" "I", Cond.fieldLink RX0 58 "OutcastBench$CacheAndBench" "swapCount" "I", Cond.methodLink RX0 42 yX0_setOf, Cond.instanceMethod yX0_setOf, Cond.selects RX0 yX0_setOf yX0_setOf, Cond.code yX0_setOf cX0_setOf 2 (some .int), Cond.methodLink RX0 52 yX0_seatOf, Cond.instanceMethod yX0_seatOf, Cond.selects RX0 yX0_seatOf yX0_seatOf, Cond.code yX0_seatOf cX0_seatOf 3 (some .int), Cond.fieldLink RX0 15 "OutcastBench$CacheAndBench" "bench" "[I", Cond.methodLink RX0 61 yX0_leaveBench, Cond.instanceMethod yX0_leaveBench, Cond.selects RX0 yX0_leaveBench yX0_leaveBench, Cond.code yX0_leaveBench cX0_leaveBench 3 none, Cond.methodLink RX0 65 yX0_throwOut, Cond.instanceMethod yX0_throwOut, Cond.selects RX0 yX0_throwOut yX0_throwOut, Cond.code yX0_throwOut cX0_throwOut 3 none, Cond.methodLink RX0 68 yX0_bringHomeIfDirty, Cond.instanceMethod yX0_bringHomeIfDirty, Cond.selects RX0 yX0_bringHomeIfDirty yX0_bringHomeIfDirty, Cond.code yX0_bringHomeIfDirty cX0_bringHomeIfDirty 2 none, Cond.fieldLink RX0 71 "OutcastBench$CacheAndBench" "homecomingCount" "I"]
def wsL_wouldCost : List Cond := .codeWith yL_wouldCost cL_wouldCost 5 (some .int) [(0, 10, 13, 23)] :: ((wsL_wouldCost_r1 ++ (wsL_wouldCost_r2 ++ wsL_wouldCost_r3)) ++ wsX20 ++ wsX00 ++ wsX10 ++ (vx_atS RX2 58 "java/lang/IllegalArgumentException" ["java/lang/RuntimeException", "java/lang/Exception"]).filter goodWord)
def wsL_law0_r1 : List Cond := [Cond.classLink RL 8 RX2, Cond.instantiable RX2 5, Cond.initialized RX2, Cond.classLink RL 56 RX3, Cond.instantiable RX3 16, Cond.initialized RX3, Cond.arrayClass .long, Cond.methodLink RL 55 yX2_init, Cond.instanceMethod yX2_init, Cond.code yX2_init cX2_init 1 none, Cond.methodLink RX2 3 objectInit, Cond.instanceMethod objectInit, Cond.code objectInit ⟨#[0xb1]⟩ 1 none, Cond.arrayClass .int, Cond.fieldLink RX2 9 "OutcastBench" "written" "[I", Cond.fieldLink RX2 13 "OutcastBench" "home" "[I", Cond.classLink RX2 16 RX0, Cond.instantiable RX0 11, Cond.initialized RX0, Cond.fieldLink RX2 21 "OutcastBench" "actual" "LOutcastBench$CacheAndBench;", Cond.fieldLink RX2 25 "OutcastBench" "trial" "LOutcastBench$CacheAndBench;", Cond.classLink RX2 28 RX1, Cond.instantiable RX1 4, Cond.initialized RX1]
def wsL_law0_r2 : List Cond := [Cond.fieldLink RX2 31 "OutcastBench" "last" "LOutcastBench$LastAccesses;", Cond.methodLink RX2 18 yX0_init, Cond.instanceMethod yX0_init, Cond.code yX0_init cX0_init 3 none, Cond.methodLink RX0 3 objectInit, Cond.fieldLink RX0 9 "OutcastBench$CacheAndBench" "lines" "[I", Cond.fieldLink RX0 15 "OutcastBench$CacheAndBench" "bench" "[I", Cond.arrayClass .boolean, Cond.fieldLink RX0 18 "OutcastBench$CacheAndBench" "dirtyLines" "[Z", Cond.methodLink RX0 22 yX0_startEmpty, Cond.instanceMethod yX0_startEmpty, Cond.selects RX0 yX0_startEmpty yX0_startEmpty, Cond.code yX0_startEmpty cX0_startEmpty 4 none, Cond.fieldLink RX0 26 "OutcastBench$CacheAndBench" "setCount" "I", Cond.fieldLink RX0 30 "OutcastBench$CacheAndBench" "placeCount" "I", Cond.fieldLink RX0 39 "OutcastBench$CacheAndBench" "seated" "I", Cond.methodLink RX0 33 yJ7_fill_53178, Cond.static yJ7_fill_53178, Cond.initialized RJ7, Cond.code yJ7_fill_53178 cJ7_fill_53178 4 none, Cond.instanceMethod yX1_init, Cond.code yX1_init cX1_init 1 none, Cond.methodLink RX1 3 objectInit, Cond.fieldLink RX1 9 "OutcastBench$LastAccesses" "lines" "[I"]
def wsL_law0_r3 : List Cond := [Cond.fieldLink RX1 15 "OutcastBench$LastAccesses" "writes" "[Z", Cond.methodLink RL 58 yX3_init, Cond.instanceMethod yX3_init, Cond.code yX3_init cX3_init 1 none, Cond.methodLink RX3 1 objectInit, Cond.fieldLink RX3 7 "OutcastBenchModel" "written" "[I", Cond.fieldLink RX3 13 "OutcastBenchModel" "home" "[I", Cond.fieldLink RX3 16 "OutcastBenchModel" "sets" "[I", Cond.fieldLink RX3 19 "OutcastBenchModel" "places" "[I", Cond.fieldLink RX3 22 "OutcastBenchModel" "lineOf" "[I", Cond.fieldLink RX3 25 "OutcastBenchModel" "bench" "[I", Cond.fieldLink RX3 28 "OutcastBenchModel" "many" "[I", Cond.fieldLink RX3 31 "OutcastBenchModel" "isDirty" "[I", Cond.fieldLink RX3 34 "OutcastBenchModel" "cost" "[I", Cond.fieldLink RX3 37 "OutcastBenchModel" "asked" "[I", Cond.methodLink RX3 40 yX3_empties, Cond.instanceMethod yX3_empties, Cond.selects RX3 yX3_empties yX3_empties, Cond.code yX3_empties cX3_empties 3 none, Cond.methodLink RL 59 yL_read, Cond.static yL_read, Cond.initialized RL, Cond.codeWith yL_read cL_read 4 (some .int) [(0, 9, 12, 13)], Cond.classLink RL 13 "java/lang/IndexOutOfBoundsException"]
def wsL_law0_r4 : List Cond := [Cond.methodLink RL 7 yX2_read, Cond.instanceMethod yX2_read, Cond.selects RX2 yX2_read yX2_read, Cond.code yX2_read cX2_read 2 (some .int), Cond.methodLink RX2 35 yX2_requireWord, Cond.static yX2_requireWord, Cond.code yX2_requireWord cX2_requireWord 1 none, Cond.classLink RX2 107 "java/lang/IndexOutOfBoundsException", Cond.initialized "java/lang/IndexOutOfBoundsException", Cond.methodLink RX2 39 yX2_lineOf, Cond.static yX2_lineOf, Cond.code yX2_lineOf cX2_lineOf 1 (some .int), Cond.methodLink RX2 43 yX2_ask, Cond.instanceMethod yX2_ask, Cond.selects RX2 yX2_ask yX2_ask, Cond.code yX2_ask cX2_ask 3 none, Cond.methodLink RX2 139 yX0_access, Cond.instanceMethod yX0_access, Cond.selects RX0 yX0_access yX0_access, Cond.code yX0_access cX0_access 5 none, Cond.fieldLink RX0 46 "OutcastBench$CacheAndBench" "hitCount" "I", Cond.fieldLink RX0 49 "OutcastBench$CacheAndBench" "costSoFar" "I", Cond.fieldLink RX0 55 "OutcastBench$CacheAndBench" "missCount" "I", Cond.fieldLink RX0 58 "OutcastBench$CacheAndBench" "swapCount" "I"]
def wsL_law0_r5 : List Cond := [Cond.methodLink RX0 42 yX0_setOf, Cond.instanceMethod yX0_setOf, Cond.selects RX0 yX0_setOf yX0_setOf, Cond.code yX0_setOf cX0_setOf 2 (some .int), Cond.methodLink RX0 52 yX0_seatOf, Cond.instanceMethod yX0_seatOf, Cond.selects RX0 yX0_seatOf yX0_seatOf, Cond.code yX0_seatOf cX0_seatOf 3 (some .int), Cond.methodLink RX0 61 yX0_leaveBench, Cond.instanceMethod yX0_leaveBench, Cond.selects RX0 yX0_leaveBench yX0_leaveBench, Cond.code yX0_leaveBench cX0_leaveBench 3 none, Cond.methodLink RX0 65 yX0_throwOut, Cond.instanceMethod yX0_throwOut, Cond.selects RX0 yX0_throwOut yX0_throwOut, Cond.code yX0_throwOut cX0_throwOut 3 none, Cond.methodLink RX0 68 yX0_bringHomeIfDirty, Cond.instanceMethod yX0_bringHomeIfDirty, Cond.selects RX0 yX0_bringHomeIfDirty yX0_bringHomeIfDirty, Cond.code yX0_bringHomeIfDirty cX0_bringHomeIfDirty 2 none, Cond.fieldLink RX0 71 "OutcastBench$CacheAndBench" "homecomingCount" "I", Cond.methodLink RX2 142 yX1_add, Cond.instanceMethod yX1_add, Cond.selects RX1 yX1_add yX1_add]
def wsL_law0_r6 : List Cond := [Cond.code yX1_add cX1_add 3 none, Cond.fieldLink RX1 19 "OutcastBench$LastAccesses" "next" "I", Cond.fieldLink RX1 23 "OutcastBench$LastAccesses" "count" "I", Cond.methodLink RL 64 yX3_read, Cond.instanceMethod yX3_read, Cond.selects RX3 yX3_read yX3_read, Cond.code yX3_read cX3_read 2 (some .int), Cond.fieldLink RX3 44 "OutcastBenchModel" "thrown" "I", Cond.methodLink RX3 86 yX3_isWord, Cond.static yX3_isWord, Cond.code yX3_isWord cX3_isWord 1 (some .boolean), Cond.methodLink RX3 90 yX3_asks, Cond.instanceMethod yX3_asks, Cond.selects RX3 yX3_asks yX3_asks, Cond.code yX3_asks cX3_asks 5 none, Cond.fieldLink RX3 74 "OutcastBenchModel" "hits" "I", Cond.fieldLink RX3 77 "OutcastBenchModel" "swaps" "I", Cond.fieldLink RX3 80 "OutcastBenchModel" "misses" "I", Cond.fieldLink RX3 83 "OutcastBenchModel" "askedMany" "I", Cond.methodLink RX3 71 yX3_access, Cond.instanceMethod yX3_access, Cond.selects RX3 yX3_access yX3_access, Cond.code yX3_access cX3_access 6 (some .int), Cond.methodLink RX3 61 yX3_seat]
def wsL_law0_r7 : List Cond := [Cond.instanceMethod yX3_seat, Cond.selects RX3 yX3_seat yX3_seat, Cond.code yX3_seat cX3_seat 4 (some .int), Cond.methodLink RX3 65 yX3_leavesBench, Cond.instanceMethod yX3_leavesBench, Cond.selects RX3 yX3_leavesBench yX3_leavesBench, Cond.code yX3_leavesBench cX3_leavesBench 4 none, Cond.methodLink RX3 58 yX3_sits, Cond.instanceMethod yX3_sits, Cond.selects RX3 yX3_sits yX3_sits, Cond.code yX3_sits cX3_sits 4 none, Cond.methodLink RX3 68 yX3_throwsOut, Cond.instanceMethod yX3_throwsOut, Cond.selects RX3 yX3_throwsOut yX3_throwsOut, Cond.code yX3_throwsOut cX3_throwsOut 5 none, Cond.methodLink RX3 55 yX3_goesHome, Cond.instanceMethod yX3_goesHome, Cond.selects RX3 yX3_goesHome yX3_goesHome, Cond.code yX3_goesHome cX3_goesHome 3 none, Cond.methodLink RX3 51 yX3_comesHome, Cond.instanceMethod yX3_comesHome, Cond.selects RX3 yX3_comesHome yX3_comesHome, Cond.code yX3_comesHome cX3_comesHome 4 none, Cond.fieldLink RX3 48 "OutcastBenchModel" "homecomings" "I"]
def wsL_law0_r8 : List Cond := [Cond.methodLink RL 65 yX3_thrown, Cond.instanceMethod yX3_thrown, Cond.selects RX3 yX3_thrown yX3_thrown, Cond.code yX3_thrown cX3_thrown 1 (some .int), Cond.methodLink RL 69 yL_write, Cond.static yL_write, Cond.codeWith yL_write cL_write 5 (some .int) [(0, 10, 13, 13)], Cond.methodLink RL 15 yX2_write, Cond.instanceMethod yX2_write, Cond.selects RX2 yX2_write yX2_write, Cond.code yX2_write cX2_write 5 (some .int), Cond.fieldLink RX2 47 "OutcastBench$CacheAndBench" "dirtyLines" "[Z", Cond.methodLink RX2 51 yX2_keepHomeWords, Cond.instanceMethod yX2_keepHomeWords, Cond.selects RX2 yX2_keepHomeWords yX2_keepHomeWords, Cond.code yX2_keepHomeWords cX2_keepHomeWords 3 none, Cond.methodLink RX2 145 arraycopyName, Cond.native arraycopyName, Cond.static arraycopyName, Cond.initialized "java/lang/System", Cond.methodLink RL 72 yX3_write, Cond.instanceMethod yX3_write, Cond.selects RX3 yX3_write yX3_write, Cond.code yX3_write cX3_write 4 (some .int)]
def wsL_law0_r9 : List Cond := [Cond.methodLink RL 73 yL_walk, Cond.static yL_walk, Cond.codeWith yL_walk cL_walk 6 (some .int) [(0, 12, 15, 13), (0, 12, 19, 23)], Cond.classLink RL 23 "java/lang/IllegalArgumentException", Cond.methodLink RL 19 yX2_walk, Cond.instanceMethod yX2_walk, Cond.selects RX2 yX2_walk yX2_walk, Cond.code yX2_walk cX2_walk 7 (some .int), Cond.classLink RX2 54 "java/lang/IllegalArgumentException", Cond.initialized "java/lang/IllegalArgumentException", Cond.fieldLink RX2 61 "OutcastBench$CacheAndBench" "costSoFar" "I", Cond.methodLink RX2 65 yJ9_floorMod_7cf53, Cond.static yJ9_floorMod_7cf53, Cond.initialized RJ9, Cond.code yJ9_floorMod_7cf53 cJ9_floorMod_7cf53 3 (some .int), Cond.methodLink RL 76 yX3_walk, Cond.instanceMethod yX3_walk, Cond.selects RX3 yX3_walk yX3_walk, Cond.code yX3_walk cX3_walk 7 (some .int), Cond.methodLink RL 77 yX2_bringHome, Cond.instanceMethod yX2_bringHome, Cond.selects RX2 yX2_bringHome yX2_bringHome, Cond.code yX2_bringHome cX2_bringHome 1 (some .int), Cond.methodLink RX2 71 yX0_bringAllHome]
def wsL_law0_r10 : List Cond := [Cond.instanceMethod yX0_bringAllHome, Cond.selects RX0 yX0_bringAllHome yX0_bringAllHome, Cond.code yX0_bringAllHome cX0_bringAllHome 3 (some .int), Cond.methodLink RL 80 yX3_bringHome, Cond.instanceMethod yX3_bringHome, Cond.selects RX3 yX3_bringHome yX3_bringHome, Cond.code yX3_bringHome cX3_bringHome 1 (some .int), Cond.methodLink RX3 94 yX3_bringsHome, Cond.instanceMethod yX3_bringsHome, Cond.selects RX3 yX3_bringsHome yX3_bringsHome, Cond.code yX3_bringsHome cX3_bringsHome 3 (some .int), Cond.methodLink RL 81 yL_build, Cond.static yL_build, Cond.codeWith yL_build cL_build 5 (some .int) [(0, 10, 13, 23)], Cond.methodLink RL 25 yX2_build, Cond.instanceMethod yX2_build, Cond.selects RX2 yX2_build yX2_build, Cond.code yX2_build cX2_build 4 (some .int), Cond.methodLink RX2 75 yX2_requireSize, Cond.static yX2_requireSize, Cond.code yX2_requireSize cX2_requireSize 3 none, Cond.methodLink RX2 78 yX0_countLines, Cond.instanceMethod yX0_countLines, Cond.selects RX0 yX0_countLines yX0_countLines]
def wsL_law0_r11 : List Cond := [Cond.code yX0_countLines cX0_countLines 3 (some .int), Cond.methodLink RX2 81 yX0_startEmpty, Cond.methodLink RL 83 yX3_build, Cond.instanceMethod yX3_build, Cond.selects RX3 yX3_build yX3_build, Cond.code yX3_build cX3_build 5 (some .int), Cond.methodLink RX3 98 yX3_isSize, Cond.static yX3_isSize, Cond.code yX3_isSize cX3_isSize 2 (some .boolean), Cond.methodLink RX3 102 yX3_inCache, Cond.instanceMethod yX3_inCache, Cond.selects RX3 yX3_inCache yX3_inCache, Cond.code yX3_inCache cX3_inCache 3 (some .int), Cond.methodLink RL 84 yL_cast, Cond.static yL_cast, Cond.codeWith yL_cast cL_cast 4 (some .int) [(0, 9, 12, 13), (0, 9, 15, 31)], Cond.classLink RL 31 "java/lang/IllegalStateException", Cond.methodLink RL 28 yX2_cast, Cond.instanceMethod yX2_cast, Cond.selects RX2 yX2_cast yX2_cast, Cond.code yX2_cast cX2_cast 3 (some .int), Cond.classLink RX2 90 "java/lang/IllegalStateException", Cond.initialized "java/lang/IllegalStateException", Cond.fieldLink RX2 87 "OutcastBench$CacheAndBench" "lines" "[I"]
def wsL_law0_r12 : List Cond := [Cond.methodLink RX2 84 yX2_requireSet, Cond.instanceMethod yX2_requireSet, Cond.selects RX2 yX2_requireSet yX2_requireSet, Cond.code yX2_requireSet cX2_requireSet 2 none, Cond.fieldLink RX2 98 "OutcastBench$CacheAndBench" "setCount" "I", Cond.methodLink RX2 95 yX0_throwOut, Cond.methodLink RL 86 yX3_cast, Cond.instanceMethod yX3_cast, Cond.selects RX3 yX3_cast yX3_cast, Cond.code yX3_cast cX3_cast 3 (some .int), Cond.methodLink RX3 105 yX3_isSet, Cond.instanceMethod yX3_isSet, Cond.selects RX3 yX3_isSet yX3_isSet, Cond.code yX3_isSet cX3_isSet 2 (some .boolean), Cond.methodLink RL 87 yX2_sets, Cond.instanceMethod yX2_sets, Cond.selects RX2 yX2_sets yX2_sets, Cond.code yX2_sets cX2_sets 1 (some .int), Cond.methodLink RL 90 yX3_sets, Cond.instanceMethod yX3_sets, Cond.selects RX3 yX3_sets yX3_sets, Cond.code yX3_sets cX3_sets 1 (some .int), Cond.methodLink RL 91 yX2_places, Cond.instanceMethod yX2_places]
def wsL_law0_r13 : List Cond := [Cond.selects RX2 yX2_places yX2_places, Cond.code yX2_places cX2_places 1 (some .int), Cond.fieldLink RX2 101 "OutcastBench$CacheAndBench" "placeCount" "I", Cond.methodLink RL 94 yX3_places, Cond.instanceMethod yX3_places, Cond.selects RX3 yX3_places yX3_places, Cond.code yX3_places cX3_places 1 (some .int), Cond.methodLink RL 95 yL_lineIn, Cond.static yL_lineIn, Cond.codeWith yL_lineIn cL_lineIn 4 (some .int) [(0, 9, 12, 13)], Cond.methodLink RL 33 yX2_lineIn, Cond.instanceMethod yX2_lineIn, Cond.selects RX2 yX2_lineIn yX2_lineIn, Cond.code yX2_lineIn cX2_lineIn 2 (some .int), Cond.methodLink RL 97 yX3_lineIn, Cond.instanceMethod yX3_lineIn, Cond.selects RX3 yX3_lineIn yX3_lineIn, Cond.code yX3_lineIn cX3_lineIn 2 (some .int), Cond.methodLink RL 98 yX2_sitting, Cond.instanceMethod yX2_sitting, Cond.selects RX2 yX2_sitting yX2_sitting, Cond.code yX2_sitting cX2_sitting 1 (some .int), Cond.fieldLink RX2 104 "OutcastBench$CacheAndBench" "seated" "I", Cond.methodLink RL 101 yX3_sitting]
def wsL_law0_r14 : List Cond := [Cond.instanceMethod yX3_sitting, Cond.selects RX3 yX3_sitting yX3_sitting, Cond.code yX3_sitting cX3_sitting 1 (some .int), Cond.methodLink RL 102 yL_lineOnBench, Cond.static yL_lineOnBench, Cond.codeWith yL_lineOnBench cL_lineOnBench 4 (some .int) [(0, 9, 12, 13)], Cond.methodLink RL 36 yX2_lineOnBench, Cond.instanceMethod yX2_lineOnBench, Cond.selects RX2 yX2_lineOnBench yX2_lineOnBench, Cond.code yX2_lineOnBench cX2_lineOnBench 2 (some .int), Cond.fieldLink RX2 112 "OutcastBench$CacheAndBench" "bench" "[I", Cond.methodLink RL 104 yX3_lineOnBench, Cond.instanceMethod yX3_lineOnBench, Cond.selects RX3 yX3_lineOnBench yX3_lineOnBench, Cond.code yX3_lineOnBench cX3_lineOnBench 2 (some .int), Cond.methodLink RL 105 yL_placeOf, Cond.static yL_placeOf, Cond.codeWith yL_placeOf cL_placeOf 4 (some .int) [(0, 9, 12, 13)], Cond.methodLink RL 39 yX2_placeOf, Cond.instanceMethod yX2_placeOf, Cond.selects RX2 yX2_placeOf yX2_placeOf, Cond.code yX2_placeOf cX2_placeOf 2 (some .int), Cond.methodLink RX2 115 yX2_requireLine, Cond.static yX2_requireLine]
def wsL_law0_r15 : List Cond := [Cond.code yX2_requireLine cX2_requireLine 1 none, Cond.methodLink RX2 118 yX0_whereIs, Cond.instanceMethod yX0_whereIs, Cond.selects RX0 yX0_whereIs yX0_whereIs, Cond.code yX0_whereIs cX0_whereIs 2 (some .int), Cond.methodLink RL 107 yX3_placeOf, Cond.instanceMethod yX3_placeOf, Cond.selects RX3 yX3_placeOf yX3_placeOf, Cond.code yX3_placeOf cX3_placeOf 2 (some .int), Cond.methodLink RX3 108 yX3_isLine, Cond.instanceMethod yX3_isLine, Cond.selects RX3 yX3_isLine yX3_isLine, Cond.code yX3_isLine cX3_isLine 2 (some .boolean), Cond.methodLink RL 108 yL_isDirty, Cond.static yL_isDirty, Cond.codeWith yL_isDirty cL_isDirty 4 (some .int) [(0, 16, 19, 13)], Cond.methodLink RL 42 yX2_isDirty, Cond.instanceMethod yX2_isDirty, Cond.selects RX2 yX2_isDirty yX2_isDirty, Cond.code yX2_isDirty cX2_isDirty 2 (some .boolean), Cond.methodLink RL 110 yX3_isDirty, Cond.instanceMethod yX3_isDirty, Cond.selects RX3 yX3_isDirty yX3_isDirty, Cond.code yX3_isDirty cX3_isDirty 2 (some .boolean)]
def wsL_law0_r16 : List Cond := [Cond.methodLink RL 111 yX2_dirty, Cond.instanceMethod yX2_dirty, Cond.selects RX2 yX2_dirty yX2_dirty, Cond.code yX2_dirty cX2_dirty 1 (some .int), Cond.methodLink RX2 121 yX0_countDirty, Cond.instanceMethod yX0_countDirty, Cond.selects RX0 yX0_countDirty yX0_countDirty, Cond.code yX0_countDirty cX0_countDirty 3 (some .int), Cond.methodLink RL 114 yX3_dirty, Cond.instanceMethod yX3_dirty, Cond.selects RX3 yX3_dirty yX3_dirty, Cond.code yX3_dirty cX3_dirty 3 (some .int), Cond.methodLink RL 115 yL_atHome, Cond.static yL_atHome, Cond.codeWith yL_atHome cL_atHome 4 (some .int) [(0, 9, 12, 13)], Cond.methodLink RL 46 yX2_atHome, Cond.instanceMethod yX2_atHome, Cond.selects RX2 yX2_atHome yX2_atHome, Cond.code yX2_atHome cX2_atHome 2 (some .int), Cond.methodLink RL 117 yX3_atHome, Cond.instanceMethod yX3_atHome, Cond.selects RX3 yX3_atHome yX3_atHome, Cond.code yX3_atHome cX3_atHome 2 (some .int), Cond.methodLink RL 118 yL_peek]
def wsL_law0_r17 : List Cond := [Cond.static yL_peek, Cond.codeWith yL_peek cL_peek 4 (some .int) [(0, 9, 12, 13)], Cond.methodLink RL 49 yX2_peek, Cond.instanceMethod yX2_peek, Cond.selects RX2 yX2_peek yX2_peek, Cond.code yX2_peek cX2_peek 2 (some .int), Cond.methodLink RL 120 yX3_peek, Cond.instanceMethod yX3_peek, Cond.selects RX3 yX3_peek yX3_peek, Cond.code yX3_peek cX3_peek 2 (some .int), Cond.methodLink RL 121 yX2_hits, Cond.instanceMethod yX2_hits, Cond.selects RX2 yX2_hits yX2_hits, Cond.code yX2_hits cX2_hits 1 (some .int), Cond.fieldLink RX2 124 "OutcastBench$CacheAndBench" "hitCount" "I", Cond.methodLink RL 124 yX3_hits, Cond.instanceMethod yX3_hits, Cond.selects RX3 yX3_hits yX3_hits, Cond.code yX3_hits cX3_hits 1 (some .int), Cond.methodLink RL 125 yX2_swaps, Cond.instanceMethod yX2_swaps, Cond.selects RX2 yX2_swaps yX2_swaps, Cond.code yX2_swaps cX2_swaps 1 (some .int), Cond.fieldLink RX2 127 "OutcastBench$CacheAndBench" "swapCount" "I"]
def wsL_law0_r18 : List Cond := [Cond.methodLink RL 128 yX3_swaps, Cond.instanceMethod yX3_swaps, Cond.selects RX3 yX3_swaps yX3_swaps, Cond.code yX3_swaps cX3_swaps 1 (some .int), Cond.methodLink RL 129 yX2_misses, Cond.instanceMethod yX2_misses, Cond.selects RX2 yX2_misses yX2_misses, Cond.code yX2_misses cX2_misses 1 (some .int), Cond.fieldLink RX2 130 "OutcastBench$CacheAndBench" "missCount" "I", Cond.methodLink RL 132 yX3_misses, Cond.instanceMethod yX3_misses, Cond.selects RX3 yX3_misses yX3_misses, Cond.code yX3_misses cX3_misses 1 (some .int), Cond.methodLink RL 133 yX2_homecomings, Cond.instanceMethod yX2_homecomings, Cond.selects RX2 yX2_homecomings yX2_homecomings, Cond.code yX2_homecomings cX2_homecomings 1 (some .int), Cond.fieldLink RX2 133 "OutcastBench$CacheAndBench" "homecomingCount" "I", Cond.methodLink RL 136 yX3_homecomings, Cond.instanceMethod yX3_homecomings, Cond.selects RX3 yX3_homecomings yX3_homecomings, Cond.code yX3_homecomings cX3_homecomings 1 (some .int), Cond.methodLink RL 137 yX2_cost, Cond.instanceMethod yX2_cost]
def wsL_law0_r19 : List Cond := [Cond.selects RX2 yX2_cost yX2_cost, Cond.code yX2_cost cX2_cost 1 (some .int), Cond.methodLink RL 140 yX3_cost, Cond.instanceMethod yX3_cost, Cond.selects RX3 yX3_cost yX3_cost, Cond.code yX3_cost cX3_cost 1 (some .int), Cond.methodLink RL 141 yL_wouldCost, Cond.static yL_wouldCost, Cond.codeWith yL_wouldCost cL_wouldCost 5 (some .int) [(0, 10, 13, 23)], Cond.methodLink RL 52 yX2_wouldCost, Cond.instanceMethod yX2_wouldCost, Cond.selects RX2 yX2_wouldCost yX2_wouldCost, Cond.code yX2_wouldCost cX2_wouldCost 3 (some .int), Cond.methodLink RX2 136 yX2_costOfTrial, Cond.instanceMethod yX2_costOfTrial, Cond.selects RX2 yX2_costOfTrial yX2_costOfTrial, Cond.code yX2_costOfTrial cX2_costOfTrial 6 (some .int), Cond.fieldLink RX2 151 "OutcastBench$LastAccesses" "count" "I", Cond.fieldLink RX2 157 "OutcastBench$LastAccesses" "lines" "[I", Cond.fieldLink RX2 158 "OutcastBench$LastAccesses" "writes" "[Z", Cond.methodLink RX2 154 yX1_slotOf, Cond.instanceMethod yX1_slotOf, Cond.selects RX1 yX1_slotOf yX1_slotOf, Cond.code yX1_slotOf cX1_slotOf 3 (some .int)]
def wsL_law0_r20 : List Cond := [Cond.methodLink RL 143 yX3_wouldCost, Cond.instanceMethod yX3_wouldCost, Cond.selects RX3 yX3_wouldCost yX3_wouldCost, Cond.code yX3_wouldCost cX3_wouldCost 3 (some .int), Cond.methodLink RX3 111 yX3_tried, Cond.instanceMethod yX3_tried, Cond.selects RX3 yX3_tried yX3_tried, Cond.code yX3_tried cX3_tried 6 (some .int), Cond.methodLink RL 144 yX2_bestPlaces, Cond.instanceMethod yX2_bestPlaces, Cond.selects RX2 yX2_bestPlaces yX2_bestPlaces, Cond.code yX2_bestPlaces cX2_bestPlaces 5 (some .int), Cond.methodLink RL 147 yX3_bestPlaces, Cond.instanceMethod yX3_bestPlaces, Cond.selects RX3 yX3_bestPlaces yX3_bestPlaces, Cond.code yX3_bestPlaces cX3_bestPlaces 5 (some .int)]
def wsL_law0 : List Cond := (wsL_law0_r1 ++ (wsL_law0_r2 ++ (wsL_law0_r3 ++ (wsL_law0_r4 ++ (wsL_law0_r5 ++ (wsL_law0_r6 ++ (wsL_law0_r7 ++ (wsL_law0_r8 ++ (wsL_law0_r9 ++ (wsL_law0_r10 ++ (wsL_law0_r11 ++ (wsL_law0_r12 ++ (wsL_law0_r13 ++ (wsL_law0_r14 ++ (wsL_law0_r15 ++ (wsL_law0_r16 ++ (wsL_law0_r17 ++ (wsL_law0_r18 ++ (wsL_law0_r19 ++ wsL_law0_r20))))))))))))))))))) ++ wsX20 ++ wsX30 ++ wsX00 ++ wsX10 ++ ([] : List Cond)
def wsL_law : List Cond := wsL_law0 ++ (vx_atS RX2 111 "java/lang/IndexOutOfBoundsException" ["java/lang/RuntimeException", "java/lang/Exception"]).filter goodWord ++ (vx_atS RX2 58 "java/lang/IllegalArgumentException" ["java/lang/RuntimeException", "java/lang/Exception"]).filter goodWord ++ (vx_atS RX2 94 "java/lang/IllegalStateException" ["java/lang/RuntimeException", "java/lang/Exception"]).filter goodWord
end
section
set_option maxRecDepth 20000 in
theorem wsL_law0_r1_in : ∀ w ∈ wsL_law0_r1, w ∈ lw_tbl := fun w h => (goodIn_p wsL_law0_r1 [41, 44] (by decide +kernel) (by decide +kernel) w h).1
set_option maxRecDepth 20000 in
theorem wsL_law0_r2_in : ∀ w ∈ wsL_law0_r2, w ∈ lw_tbl := fun w h => (goodIn_p wsL_law0_r2 [49, 54, 57, 109] (by decide +kernel) (by decide +kernel) w h).1
set_option maxRecDepth 20000 in
theorem wsL_law0_r3_in : ∀ w ∈ wsL_law0_r3, w ∈ lw_tbl := fun w h => (goodIn_p wsL_law0_r3 [466, 471] (by decide +kernel) (by decide +kernel) w h).1
set_option maxRecDepth 20000 in
theorem wsL_law0_r4_in : ∀ w ∈ wsL_law0_r4, w ∈ lw_tbl := fun w h => (goodIn_p wsL_law0_r4 [235, 238, 309, 313, 211] (by decide +kernel) (by decide +kernel) w h).1
set_option maxRecDepth 20000 in
theorem wsL_law0_r5_in : ∀ w ∈ wsL_law0_r5, w ∈ lw_tbl := fun w h => (goodIn_p wsL_law0_r5 [215, 219, 223, 227, 154] (by decide +kernel) (by decide +kernel) w h).1
set_option maxRecDepth 20000 in
theorem wsL_law0_r6_in : ∀ w ∈ wsL_law0_r6, w ∈ lw_tbl := fun w h => (goodIn_p wsL_law0_r6 [317, 528, 531, 535, 539] (by decide +kernel) (by decide +kernel) w h).1
set_option maxRecDepth 20000 in
theorem wsL_law0_r7_in : ∀ w ∈ wsL_law0_r7, w ∈ lw_tbl := fun w h => (goodIn_p wsL_law0_r7 [543, 547, 551, 555, 559, 563] (by decide +kernel) (by decide +kernel) w h).1
set_option maxRecDepth 20000 in
theorem wsL_law0_r8_in : ∀ w ∈ wsL_law0_r8, w ∈ lw_tbl := fun w h => (goodIn_p wsL_law0_r8 [524, 324, 328, 567] (by decide +kernel) (by decide +kernel) w h).1
set_option maxRecDepth 20000 in
theorem wsL_law0_r9_in : ∀ w ∈ wsL_law0_r9, w ∈ lw_tbl := fun w h => (goodIn_p wsL_law0_r9 [339, 358, 571, 146] (by decide +kernel) (by decide +kernel) w h).1
set_option maxRecDepth 20000 in
theorem wsL_law0_r10_in : ∀ w ∈ wsL_law0_r10, w ∈ lw_tbl := fun w h => (goodIn_p wsL_law0_r10 [150, 575, 579, 365, 368] (by decide +kernel) (by decide +kernel) w h).1
set_option maxRecDepth 20000 in
theorem wsL_law0_r11_in : ∀ w ∈ wsL_law0_r11, w ∈ lw_tbl := fun w h => (goodIn_p wsL_law0_r11 [373, 583, 586, 590, 381] (by decide +kernel) (by decide +kernel) w h).1
set_option maxRecDepth 20000 in
theorem wsL_law0_r12_in : ∀ w ∈ wsL_law0_r12, w ∈ lw_tbl := fun w h => (goodIn_p wsL_law0_r12 [385, 594, 598, 158, 602] (by decide +kernel) (by decide +kernel) w h).1
set_option maxRecDepth 20000 in
theorem wsL_law0_r13_in : ∀ w ∈ wsL_law0_r13, w ∈ lw_tbl := fun w h => (goodIn_p wsL_law0_r13 [162, 606, 410, 610, 166] (by decide +kernel) (by decide +kernel) w h).1
set_option maxRecDepth 20000 in
theorem wsL_law0_r14_in : ∀ w ∈ wsL_law0_r14, w ∈ lw_tbl := fun w h => (goodIn_p wsL_law0_r14 [614, 417, 618, 425] (by decide +kernel) (by decide +kernel) w h).1
set_option maxRecDepth 20000 in
theorem wsL_law0_r15_in : ∀ w ∈ wsL_law0_r15, w ∈ lw_tbl := fun w h => (goodIn_p wsL_law0_r15 [428, 433, 622, 626, 440, 630] (by decide +kernel) (by decide +kernel) w h).1
set_option maxRecDepth 20000 in
theorem wsL_law0_r16_in : ∀ w ∈ wsL_law0_r16, w ∈ lw_tbl := fun w h => (goodIn_p wsL_law0_r16 [170, 174, 634, 447, 638] (by decide +kernel) (by decide +kernel) w h).1
set_option maxRecDepth 20000 in
theorem wsL_law0_r17_in : ∀ w ∈ wsL_law0_r17, w ∈ lw_tbl := fun w h => (goodIn_p wsL_law0_r17 [454, 642, 178, 646, 182] (by decide +kernel) (by decide +kernel) w h).1
set_option maxRecDepth 20000 in
theorem wsL_law0_r18_in : ∀ w ∈ wsL_law0_r18, w ∈ lw_tbl := fun w h => (goodIn_p wsL_law0_r18 [650, 186, 654, 190, 658] (by decide +kernel) (by decide +kernel) w h).1
set_option maxRecDepth 20000 in
theorem wsL_law0_r19_in : ∀ w ∈ wsL_law0_r19, w ∈ lw_tbl := fun w h => (goodIn_p wsL_law0_r19 [194, 662, 461, 202, 207] (by decide +kernel) (by decide +kernel) w h).1
set_option maxRecDepth 20000 in
theorem wsL_law0_r20_in : ∀ w ∈ wsL_law0_r20, w ∈ lw_tbl := fun w h => (goodIn_p wsL_law0_r20 [666, 670, 198, 674] (by decide +kernel) (by decide +kernel) w h).1
set_option maxRecDepth 20000 in
theorem wsX20_tb : ∀ w ∈ wsX20, w ∈ lw_tbl := by decide +kernel
set_option maxRecDepth 20000 in
theorem wsX30_tb : ∀ w ∈ wsX30, w ∈ lw_tbl := by decide +kernel
set_option maxRecDepth 20000 in
theorem wsX00_tb : ∀ w ∈ wsX00, w ∈ lw_tbl := by decide +kernel
set_option maxRecDepth 20000 in
theorem wsX10_tb : ∀ w ∈ wsX10, w ∈ lw_tbl := by decide +kernel
theorem wsL_law_in0 : ∀ w ∈ wsL_law0, w ∈ lw_tbl := by
  intro w h
  rcases List.mem_append.mp h with h | h
  · rcases List.mem_append.mp h with h | h
    · rcases List.mem_append.mp h with h | h
      · rcases List.mem_append.mp h with h | h
        · rcases List.mem_append.mp h with h | h
          · rcases List.mem_append.mp h with h | h
            · exact wsL_law0_r1_in w h
            rcases List.mem_append.mp h with h | h
            · exact wsL_law0_r2_in w h
            rcases List.mem_append.mp h with h | h
            · exact wsL_law0_r3_in w h
            rcases List.mem_append.mp h with h | h
            · exact wsL_law0_r4_in w h
            rcases List.mem_append.mp h with h | h
            · exact wsL_law0_r5_in w h
            rcases List.mem_append.mp h with h | h
            · exact wsL_law0_r6_in w h
            rcases List.mem_append.mp h with h | h
            · exact wsL_law0_r7_in w h
            rcases List.mem_append.mp h with h | h
            · exact wsL_law0_r8_in w h
            rcases List.mem_append.mp h with h | h
            · exact wsL_law0_r9_in w h
            rcases List.mem_append.mp h with h | h
            · exact wsL_law0_r10_in w h
            rcases List.mem_append.mp h with h | h
            · exact wsL_law0_r11_in w h
            rcases List.mem_append.mp h with h | h
            · exact wsL_law0_r12_in w h
            rcases List.mem_append.mp h with h | h
            · exact wsL_law0_r13_in w h
            rcases List.mem_append.mp h with h | h
            · exact wsL_law0_r14_in w h
            rcases List.mem_append.mp h with h | h
            · exact wsL_law0_r15_in w h
            rcases List.mem_append.mp h with h | h
            · exact wsL_law0_r16_in w h
            rcases List.mem_append.mp h with h | h
            · exact wsL_law0_r17_in w h
            rcases List.mem_append.mp h with h | h
            · exact wsL_law0_r18_in w h
            rcases List.mem_append.mp h with h | h
            · exact wsL_law0_r19_in w h
            exact wsL_law0_r20_in w h
          · exact wsX20_tb w h
        · exact wsX30_tb w h
      · exact wsX00_tb w h
    · exact wsX10_tb w h
  · exact absurd h List.not_mem_nil
end
section
theorem wsL_law_x0 : ∀ w ∈ (vx_atS RX2 111 "java/lang/IndexOutOfBoundsException" ["java/lang/RuntimeException", "java/lang/Exception"]).filter goodWord, w ∈ lw_tbl := by decide +kernel
theorem wsL_law_x1 : ∀ w ∈ (vx_atS RX2 58 "java/lang/IllegalArgumentException" ["java/lang/RuntimeException", "java/lang/Exception"]).filter goodWord, w ∈ lw_tbl := by decide +kernel
theorem wsL_law_x2 : ∀ w ∈ (vx_atS RX2 94 "java/lang/IllegalStateException" ["java/lang/RuntimeException", "java/lang/Exception"]).filter goodWord, w ∈ lw_tbl := by decide +kernel
theorem wsL_law_in : ∀ w ∈ wsL_law, w ∈ lw_tbl := fun w h => (List.mem_append.mp h).elim (fun h => (List.mem_append.mp h).elim (fun h => (List.mem_append.mp h).elim (fun h => wsL_law_in0 w h) (fun h => wsL_law_x0 w h)) (fun h => wsL_law_x1 w h)) (fun h => wsL_law_x2 w h)
theorem inlX0 : ∀ w ∈ wsX00, w ∈ wsL_law := fun _ h => List.mem_append_left _ (List.mem_append_left _ (List.mem_append_left _ (List.mem_append_left _ (List.mem_append_left _ (List.mem_append_right _ h)))))
theorem inX0 : ∀ w ∈ wsX00, w ∈ lw_tbl := fun w h => wsL_law_in w (inlX0 w h)
theorem inlX1 : ∀ w ∈ wsX10, w ∈ wsL_law := fun _ h => List.mem_append_left _ (List.mem_append_left _ (List.mem_append_left _ (List.mem_append_left _ (List.mem_append_right _ h))))
theorem inX1 : ∀ w ∈ wsX10, w ∈ lw_tbl := fun w h => wsL_law_in w (inlX1 w h)
theorem inlX2 : ∀ w ∈ wsX20, w ∈ wsL_law := fun _ h => List.mem_append_left _ (List.mem_append_left _ (List.mem_append_left _ (List.mem_append_left _ (List.mem_append_left _ (List.mem_append_left _ (List.mem_append_left _ (List.mem_append_right _ h)))))))
theorem inX2 : ∀ w ∈ wsX20, w ∈ lw_tbl := fun w h => wsL_law_in w (inlX2 w h)
theorem inlX3 : ∀ w ∈ wsX30, w ∈ wsL_law := fun _ h => List.mem_append_left _ (List.mem_append_left _ (List.mem_append_left _ (List.mem_append_left _ (List.mem_append_left _ (List.mem_append_left _ (List.mem_append_right _ h))))))
theorem inX3 : ∀ w ∈ wsX30, w ∈ lw_tbl := fun w h => wsL_law_in w (inlX3 w h)
theorem inJx145de : ∀ w ∈ wsJx145de0, w ∈ lw_tbl := by decide +kernel
theorem inJ9 : ∀ w ∈ wsJ90, w ∈ lw_tbl := by decide +kernel
theorem inJ0 : ∀ w ∈ wsJ00, w ∈ lw_tbl := by decide +kernel
theorem inJ10 : ∀ w ∈ wsJ100, w ∈ lw_tbl := by decide +kernel
theorem inJ7 : ∀ w ∈ wsJ70, w ∈ lw_tbl := by decide +kernel
set_option maxRecDepth 20000 in
theorem ggX0_init_X0_startEmpty : GoodIn wsX0_init wsX0_startEmpty := goodIn_r _ [13, 14, 15, 5, 16, 8, 17, 18, 19, 20, 21, 22, 23, 24, 25, 26, 27, 28, 29, 30, 31] (by decide +kernel) (by decide +kernel)
set_option maxRecDepth 20000 in
theorem gX0_init_X0_startEmpty : GoodIn wsX0_init (wsV RX0 22 RX0 yX0_startEmpty wsX0_startEmpty) := goodIn_app (goodIn_of _ (by decide +kernel)) ggX0_init_X0_startEmpty
theorem dX0_init_0 : decode cX0_init 0 = .ok (.aload_n 0, 1) := by decide +kernel
theorem dX0_init_1 : decode cX0_init 1 = .ok (.invokespecial 3, 3) := by decide +kernel
theorem dX0_init_4 : decode cX0_init 4 = .ok (.aload_n 0, 1) := by decide +kernel
theorem dX0_init_5 : decode cX0_init 5 = .ok (.bipush 16, 2) := by decide +kernel
theorem dX0_init_7 : decode cX0_init 7 = .ok (.newarray .int, 2) := by decide +kernel
theorem dX0_init_9 : decode cX0_init 9 = .ok (.putfield 9, 3) := by decide +kernel
theorem dX0_init_12 : decode cX0_init 12 = .ok (.aload_n 0, 1) := by decide +kernel
theorem dX0_init_13 : decode cX0_init 13 = .ok (.bipush 8, 2) := by decide +kernel
theorem dX0_init_15 : decode cX0_init 15 = .ok (.newarray .int, 2) := by decide +kernel
theorem dX0_init_17 : decode cX0_init 17 = .ok (.putfield 15, 3) := by decide +kernel
theorem dX0_init_20 : decode cX0_init 20 = .ok (.aload_n 0, 1) := by decide +kernel
theorem dX0_init_21 : decode cX0_init 21 = .ok (.sipush 256, 3) := by decide +kernel
theorem dX0_init_24 : decode cX0_init 24 = .ok (.newarray .boolean, 2) := by decide +kernel
theorem dX0_init_26 : decode cX0_init 26 = .ok (.putfield 18, 3) := by decide +kernel
theorem dX0_init_29 : decode cX0_init 29 = .ok (.aload_n 0, 1) := by decide +kernel
theorem dX0_init_30 : decode cX0_init 30 = .ok (.iload_n 1, 1) := by decide +kernel
theorem dX0_init_31 : decode cX0_init 31 = .ok (.iload_n 2, 1) := by decide +kernel
theorem dX0_init_32 : decode cX0_init 32 = .ok (.invokevirtual 22, 3) := by decide +kernel
theorem dX0_init_35 : decode cX0_init 35 = .ok (.return_, 1) := by decide +kernel
set_option maxRecDepth 20000 in
theorem ggX0_startEmpty_J7_fill_53178 : GoodIn wsX0_startEmpty wsJ7_fill_53178 := goodIn_r _ [9] (by decide +kernel) (by decide +kernel)
set_option maxRecDepth 20000 in
theorem gX0_startEmpty_J7_fill_53178 : GoodIn wsX0_startEmpty (va_wsS RX0 33 yJ7_fill_53178 wsJ7_fill_53178) := goodIn_app (goodIn_of _ (by decide +kernel)) ggX0_startEmpty_J7_fill_53178
theorem dX0_startEmpty_0 : decode cX0_startEmpty 0 = .ok (.aload_n 0, 1) := by decide +kernel
theorem dX0_startEmpty_1 : decode cX0_startEmpty 1 = .ok (.iload_n 1, 1) := by decide +kernel
theorem dX0_startEmpty_2 : decode cX0_startEmpty 2 = .ok (.putfield 26, 3) := by decide +kernel
theorem dX0_startEmpty_5 : decode cX0_startEmpty 5 = .ok (.aload_n 0, 1) := by decide +kernel
theorem dX0_startEmpty_6 : decode cX0_startEmpty 6 = .ok (.iload_n 2, 1) := by decide +kernel
theorem dX0_startEmpty_7 : decode cX0_startEmpty 7 = .ok (.putfield 30, 3) := by decide +kernel
theorem dX0_startEmpty_10 : decode cX0_startEmpty 10 = .ok (.aload_n 0, 1) := by decide +kernel
theorem dX0_startEmpty_11 : decode cX0_startEmpty 11 = .ok (.getfield 9, 3) := by decide +kernel
theorem dX0_startEmpty_14 : decode cX0_startEmpty 14 = .ok (.iconst (-1), 1) := by decide +kernel
theorem dX0_startEmpty_15 : decode cX0_startEmpty 15 = .ok (.invokestatic 33, 3) := by decide +kernel
theorem dX0_startEmpty_18 : decode cX0_startEmpty 18 = .ok (.aload_n 0, 1) := by decide +kernel
theorem dX0_startEmpty_19 : decode cX0_startEmpty 19 = .ok (.iconst 0, 1) := by decide +kernel
theorem dX0_startEmpty_20 : decode cX0_startEmpty 20 = .ok (.putfield 39, 3) := by decide +kernel
theorem dX0_startEmpty_23 : decode cX0_startEmpty 23 = .ok (.iconst 0, 1) := by decide +kernel
theorem dX0_startEmpty_24 : decode cX0_startEmpty 24 = .ok (.istore_n 3, 1) := by decide +kernel
theorem dX0_startEmpty_25 : decode cX0_startEmpty 25 = .ok (.iload_n 3, 1) := by decide +kernel
theorem dX0_startEmpty_26 : decode cX0_startEmpty 26 = .ok (.sipush 256, 3) := by decide +kernel
theorem dX0_startEmpty_29 : decode cX0_startEmpty 29 = .ok (.if_icmp .ge 16, 3) := by decide +kernel
theorem dX0_startEmpty_32 : decode cX0_startEmpty 32 = .ok (.aload_n 0, 1) := by decide +kernel
theorem dX0_startEmpty_33 : decode cX0_startEmpty 33 = .ok (.getfield 18, 3) := by decide +kernel
theorem dX0_startEmpty_36 : decode cX0_startEmpty 36 = .ok (.iload_n 3, 1) := by decide +kernel
theorem dX0_startEmpty_37 : decode cX0_startEmpty 37 = .ok (.iconst 0, 1) := by decide +kernel
theorem dX0_startEmpty_38 : decode cX0_startEmpty 38 = .ok (.bastore, 1) := by decide +kernel
theorem dX0_startEmpty_39 : decode cX0_startEmpty 39 = .ok (.iinc 3 1, 3) := by decide +kernel
theorem dX0_startEmpty_42 : decode cX0_startEmpty 42 = .ok (.goto (-17), 3) := by decide +kernel
theorem dX0_startEmpty_45 : decode cX0_startEmpty 45 = .ok (.return_, 1) := by decide +kernel
set_option maxRecDepth 20000 in
theorem ggX0_access_X0_setOf : GoodIn wsX0_access wsX0_setOf := goodIn_r _ [11, 12, 33, 34, 35, 36, 37, 38, 39, 40, 41, 42, 43] (by decide +kernel) (by decide +kernel)
set_option maxRecDepth 20000 in
theorem gX0_access_X0_setOf : GoodIn wsX0_access (wsV RX0 42 RX0 yX0_setOf wsX0_setOf) := goodIn_app (goodIn_of _ (by decide +kernel)) ggX0_access_X0_setOf
set_option maxRecDepth 20000 in
theorem ggX0_access_X0_seatOf : GoodIn wsX0_access wsX0_seatOf := goodIn_r _ [16, 17, 18, 33, 34, 35, 36, 37, 38, 39, 40, 41, 42, 43] (by decide +kernel) (by decide +kernel)
set_option maxRecDepth 20000 in
theorem gX0_access_X0_seatOf : GoodIn wsX0_access (wsV RX0 52 RX0 yX0_seatOf wsX0_seatOf) := goodIn_app (goodIn_of _ (by decide +kernel)) ggX0_access_X0_seatOf
set_option maxRecDepth 20000 in
theorem ggX0_access_X0_leaveBench : GoodIn wsX0_access wsX0_leaveBench := goodIn_r _ [22, 17, 18, 33, 34, 35, 36, 37, 38, 39, 40, 41, 42, 43] (by decide +kernel) (by decide +kernel)
set_option maxRecDepth 20000 in
theorem gX0_access_X0_leaveBench : GoodIn wsX0_access (wsV RX0 61 RX0 yX0_leaveBench wsX0_leaveBench) := goodIn_app (goodIn_of _ (by decide +kernel)) ggX0_access_X0_leaveBench
set_option maxRecDepth 20000 in
theorem ggX0_access_X0_throwOut : GoodIn wsX0_access wsX0_throwOut := goodIn_r _ [26, 1, 27, 17, 18, 28, 29, 30, 10, 31, 6, 32, 3, 19, 20, 21, 22, 33, 34, 35, 36, 37, 38, 39, 40, 41, 42, 43] (by decide +kernel) (by decide +kernel)
set_option maxRecDepth 20000 in
theorem gX0_access_X0_throwOut : GoodIn wsX0_access (wsV RX0 65 RX0 yX0_throwOut wsX0_throwOut) := goodIn_app (goodIn_of _ (by decide +kernel)) ggX0_access_X0_throwOut
theorem dX0_access_0 : decode cX0_access 0 = .ok (.aload_n 0, 1) := by decide +kernel
theorem dX0_access_1 : decode cX0_access 1 = .ok (.iload_n 1, 1) := by decide +kernel
theorem dX0_access_2 : decode cX0_access 2 = .ok (.invokevirtual 42, 3) := by decide +kernel
theorem dX0_access_5 : decode cX0_access 5 = .ok (.istore_n 3, 1) := by decide +kernel
theorem dX0_access_6 : decode cX0_access 6 = .ok (.aload_n 0, 1) := by decide +kernel
theorem dX0_access_7 : decode cX0_access 7 = .ok (.getfield 9, 3) := by decide +kernel
theorem dX0_access_10 : decode cX0_access 10 = .ok (.iload_n 3, 1) := by decide +kernel
theorem dX0_access_11 : decode cX0_access 11 = .ok (.iaload, 1) := by decide +kernel
theorem dX0_access_12 : decode cX0_access 12 = .ok (.iload_n 1, 1) := by decide +kernel
theorem dX0_access_13 : decode cX0_access 13 = .ok (.if_icmp .ne 26, 3) := by decide +kernel
theorem dX0_access_16 : decode cX0_access 16 = .ok (.aload_n 0, 1) := by decide +kernel
theorem dX0_access_17 : decode cX0_access 17 = .ok (.dup, 1) := by decide +kernel
theorem dX0_access_18 : decode cX0_access 18 = .ok (.getfield 46, 3) := by decide +kernel
theorem dX0_access_21 : decode cX0_access 21 = .ok (.iconst 1, 1) := by decide +kernel
theorem dX0_access_22 : decode cX0_access 22 = .ok (.iadd, 1) := by decide +kernel
theorem dX0_access_23 : decode cX0_access 23 = .ok (.putfield 46, 3) := by decide +kernel
theorem dX0_access_26 : decode cX0_access 26 = .ok (.aload_n 0, 1) := by decide +kernel
theorem dX0_access_27 : decode cX0_access 27 = .ok (.dup, 1) := by decide +kernel
theorem dX0_access_28 : decode cX0_access 28 = .ok (.getfield 49, 3) := by decide +kernel
theorem dX0_access_31 : decode cX0_access 31 = .ok (.iconst 1, 1) := by decide +kernel
theorem dX0_access_32 : decode cX0_access 32 = .ok (.iadd, 1) := by decide +kernel
theorem dX0_access_33 : decode cX0_access 33 = .ok (.putfield 49, 3) := by decide +kernel
theorem dX0_access_36 : decode cX0_access 36 = .ok (.goto 78, 3) := by decide +kernel
theorem dX0_access_39 : decode cX0_access 39 = .ok (.aload_n 0, 1) := by decide +kernel
theorem dX0_access_40 : decode cX0_access 40 = .ok (.iload_n 1, 1) := by decide +kernel
theorem dX0_access_41 : decode cX0_access 41 = .ok (.invokevirtual 52, 3) := by decide +kernel
theorem dX0_access_44 : decode cX0_access 44 = .ok (.istore 4, 2) := by decide +kernel
theorem dX0_access_46 : decode cX0_access 46 = .ok (.iload 4, 2) := by decide +kernel
theorem dX0_access_48 : decode cX0_access 48 = .ok (.iconst (-1), 1) := by decide +kernel
theorem dX0_access_49 : decode cX0_access 49 = .ok (.if_icmp .ne 27, 3) := by decide +kernel
theorem dX0_access_52 : decode cX0_access 52 = .ok (.aload_n 0, 1) := by decide +kernel
theorem dX0_access_53 : decode cX0_access 53 = .ok (.dup, 1) := by decide +kernel
theorem dX0_access_54 : decode cX0_access 54 = .ok (.getfield 55, 3) := by decide +kernel
theorem dX0_access_57 : decode cX0_access 57 = .ok (.iconst 1, 1) := by decide +kernel
theorem dX0_access_58 : decode cX0_access 58 = .ok (.iadd, 1) := by decide +kernel
theorem dX0_access_59 : decode cX0_access 59 = .ok (.putfield 55, 3) := by decide +kernel
theorem dX0_access_62 : decode cX0_access 62 = .ok (.aload_n 0, 1) := by decide +kernel
theorem dX0_access_63 : decode cX0_access 63 = .ok (.dup, 1) := by decide +kernel
theorem dX0_access_64 : decode cX0_access 64 = .ok (.getfield 49, 3) := by decide +kernel
theorem dX0_access_67 : decode cX0_access 67 = .ok (.bipush 20, 2) := by decide +kernel
theorem dX0_access_69 : decode cX0_access 69 = .ok (.iadd, 1) := by decide +kernel
theorem dX0_access_70 : decode cX0_access 70 = .ok (.putfield 49, 3) := by decide +kernel
theorem dX0_access_73 : decode cX0_access 73 = .ok (.goto 29, 3) := by decide +kernel
theorem dX0_access_76 : decode cX0_access 76 = .ok (.aload_n 0, 1) := by decide +kernel
theorem dX0_access_77 : decode cX0_access 77 = .ok (.dup, 1) := by decide +kernel
theorem dX0_access_78 : decode cX0_access 78 = .ok (.getfield 58, 3) := by decide +kernel
theorem dX0_access_81 : decode cX0_access 81 = .ok (.iconst 1, 1) := by decide +kernel
theorem dX0_access_82 : decode cX0_access 82 = .ok (.iadd, 1) := by decide +kernel
theorem dX0_access_83 : decode cX0_access 83 = .ok (.putfield 58, 3) := by decide +kernel
theorem dX0_access_86 : decode cX0_access 86 = .ok (.aload_n 0, 1) := by decide +kernel
theorem dX0_access_87 : decode cX0_access 87 = .ok (.dup, 1) := by decide +kernel
theorem dX0_access_88 : decode cX0_access 88 = .ok (.getfield 49, 3) := by decide +kernel
theorem dX0_access_91 : decode cX0_access 91 = .ok (.iconst 3, 1) := by decide +kernel
theorem dX0_access_92 : decode cX0_access 92 = .ok (.iadd, 1) := by decide +kernel
theorem dX0_access_93 : decode cX0_access 93 = .ok (.putfield 49, 3) := by decide +kernel
theorem dX0_access_96 : decode cX0_access 96 = .ok (.aload_n 0, 1) := by decide +kernel
theorem dX0_access_97 : decode cX0_access 97 = .ok (.iload 4, 2) := by decide +kernel
theorem dX0_access_99 : decode cX0_access 99 = .ok (.invokevirtual 61, 3) := by decide +kernel
theorem dX0_access_102 : decode cX0_access 102 = .ok (.aload_n 0, 1) := by decide +kernel
theorem dX0_access_103 : decode cX0_access 103 = .ok (.iload_n 3, 1) := by decide +kernel
theorem dX0_access_104 : decode cX0_access 104 = .ok (.invokevirtual 65, 3) := by decide +kernel
theorem dX0_access_107 : decode cX0_access 107 = .ok (.aload_n 0, 1) := by decide +kernel
theorem dX0_access_108 : decode cX0_access 108 = .ok (.getfield 9, 3) := by decide +kernel
theorem dX0_access_111 : decode cX0_access 111 = .ok (.iload_n 3, 1) := by decide +kernel
theorem dX0_access_112 : decode cX0_access 112 = .ok (.iload_n 1, 1) := by decide +kernel
theorem dX0_access_113 : decode cX0_access 113 = .ok (.iastore, 1) := by decide +kernel
theorem dX0_access_114 : decode cX0_access 114 = .ok (.iload_n 2, 1) := by decide +kernel
theorem dX0_access_115 : decode cX0_access 115 = .ok (.ifCond .eq 10, 3) := by decide +kernel
theorem dX0_access_118 : decode cX0_access 118 = .ok (.aload_n 0, 1) := by decide +kernel
theorem dX0_access_119 : decode cX0_access 119 = .ok (.getfield 18, 3) := by decide +kernel
theorem dX0_access_122 : decode cX0_access 122 = .ok (.iload_n 1, 1) := by decide +kernel
theorem dX0_access_123 : decode cX0_access 123 = .ok (.iconst 1, 1) := by decide +kernel
theorem dX0_access_124 : decode cX0_access 124 = .ok (.bastore, 1) := by decide +kernel
theorem dX0_access_125 : decode cX0_access 125 = .ok (.return_, 1) := by decide +kernel
set_option maxRecDepth 20000 in
theorem ggX0_throwOut_X0_bringHomeIfDirty : GoodIn wsX0_throwOut wsX0_bringHomeIfDirty := goodIn_r _ [9, 10, 11, 12, 17, 18, 19, 20, 21, 22, 23, 24, 25, 26, 27] (by decide +kernel) (by decide +kernel)
set_option maxRecDepth 20000 in
theorem gX0_throwOut_X0_bringHomeIfDirty : GoodIn wsX0_throwOut (wsV RX0 68 RX0 yX0_bringHomeIfDirty wsX0_bringHomeIfDirty) := goodIn_app (goodIn_of _ (by decide +kernel)) ggX0_throwOut_X0_bringHomeIfDirty
set_option maxRecDepth 20000 in
theorem ggX0_throwOut_X0_leaveBench : GoodIn wsX0_throwOut wsX0_leaveBench := goodIn_r _ [16, 3, 4, 17, 18, 19, 20, 21, 22, 23, 24, 25, 26, 27] (by decide +kernel) (by decide +kernel)
set_option maxRecDepth 20000 in
theorem gX0_throwOut_X0_leaveBench : GoodIn wsX0_throwOut (wsV RX0 61 RX0 yX0_leaveBench wsX0_leaveBench) := goodIn_app (goodIn_of _ (by decide +kernel)) ggX0_throwOut_X0_leaveBench
theorem dX0_throwOut_0 : decode cX0_throwOut 0 = .ok (.aload_n 0, 1) := by decide +kernel
theorem dX0_throwOut_1 : decode cX0_throwOut 1 = .ok (.getfield 9, 3) := by decide +kernel
theorem dX0_throwOut_4 : decode cX0_throwOut 4 = .ok (.iload_n 1, 1) := by decide +kernel
theorem dX0_throwOut_5 : decode cX0_throwOut 5 = .ok (.iaload, 1) := by decide +kernel
theorem dX0_throwOut_6 : decode cX0_throwOut 6 = .ok (.istore_n 2, 1) := by decide +kernel
theorem dX0_throwOut_7 : decode cX0_throwOut 7 = .ok (.iload_n 2, 1) := by decide +kernel
theorem dX0_throwOut_8 : decode cX0_throwOut 8 = .ok (.iconst (-1), 1) := by decide +kernel
theorem dX0_throwOut_9 : decode cX0_throwOut 9 = .ok (.if_icmp .ne 4, 3) := by decide +kernel
theorem dX0_throwOut_12 : decode cX0_throwOut 12 = .ok (.return_, 1) := by decide +kernel
theorem dX0_throwOut_13 : decode cX0_throwOut 13 = .ok (.aload_n 0, 1) := by decide +kernel
theorem dX0_throwOut_14 : decode cX0_throwOut 14 = .ok (.getfield 9, 3) := by decide +kernel
theorem dX0_throwOut_17 : decode cX0_throwOut 17 = .ok (.iload_n 1, 1) := by decide +kernel
theorem dX0_throwOut_18 : decode cX0_throwOut 18 = .ok (.iconst (-1), 1) := by decide +kernel
theorem dX0_throwOut_19 : decode cX0_throwOut 19 = .ok (.iastore, 1) := by decide +kernel
theorem dX0_throwOut_20 : decode cX0_throwOut 20 = .ok (.aload_n 0, 1) := by decide +kernel
theorem dX0_throwOut_21 : decode cX0_throwOut 21 = .ok (.getfield 30, 3) := by decide +kernel
theorem dX0_throwOut_24 : decode cX0_throwOut 24 = .ok (.ifCond .ne 9, 3) := by decide +kernel
theorem dX0_throwOut_27 : decode cX0_throwOut 27 = .ok (.aload_n 0, 1) := by decide +kernel
theorem dX0_throwOut_28 : decode cX0_throwOut 28 = .ok (.iload_n 2, 1) := by decide +kernel
theorem dX0_throwOut_29 : decode cX0_throwOut 29 = .ok (.invokevirtual 68, 3) := by decide +kernel
theorem dX0_throwOut_32 : decode cX0_throwOut 32 = .ok (.return_, 1) := by decide +kernel
theorem dX0_throwOut_33 : decode cX0_throwOut 33 = .ok (.aload_n 0, 1) := by decide +kernel
theorem dX0_throwOut_34 : decode cX0_throwOut 34 = .ok (.getfield 39, 3) := by decide +kernel
theorem dX0_throwOut_37 : decode cX0_throwOut 37 = .ok (.aload_n 0, 1) := by decide +kernel
theorem dX0_throwOut_38 : decode cX0_throwOut 38 = .ok (.getfield 30, 3) := by decide +kernel
theorem dX0_throwOut_41 : decode cX0_throwOut 41 = .ok (.if_icmp .lt 18, 3) := by decide +kernel
theorem dX0_throwOut_44 : decode cX0_throwOut 44 = .ok (.aload_n 0, 1) := by decide +kernel
theorem dX0_throwOut_45 : decode cX0_throwOut 45 = .ok (.aload_n 0, 1) := by decide +kernel
theorem dX0_throwOut_46 : decode cX0_throwOut 46 = .ok (.getfield 15, 3) := by decide +kernel
theorem dX0_throwOut_49 : decode cX0_throwOut 49 = .ok (.iconst 0, 1) := by decide +kernel
theorem dX0_throwOut_50 : decode cX0_throwOut 50 = .ok (.iaload, 1) := by decide +kernel
theorem dX0_throwOut_51 : decode cX0_throwOut 51 = .ok (.invokevirtual 68, 3) := by decide +kernel
theorem dX0_throwOut_54 : decode cX0_throwOut 54 = .ok (.aload_n 0, 1) := by decide +kernel
theorem dX0_throwOut_55 : decode cX0_throwOut 55 = .ok (.iconst 0, 1) := by decide +kernel
theorem dX0_throwOut_56 : decode cX0_throwOut 56 = .ok (.invokevirtual 61, 3) := by decide +kernel
theorem dX0_throwOut_59 : decode cX0_throwOut 59 = .ok (.aload_n 0, 1) := by decide +kernel
theorem dX0_throwOut_60 : decode cX0_throwOut 60 = .ok (.getfield 15, 3) := by decide +kernel
theorem dX0_throwOut_63 : decode cX0_throwOut 63 = .ok (.aload_n 0, 1) := by decide +kernel
theorem dX0_throwOut_64 : decode cX0_throwOut 64 = .ok (.getfield 39, 3) := by decide +kernel
theorem dX0_throwOut_67 : decode cX0_throwOut 67 = .ok (.iload_n 2, 1) := by decide +kernel
theorem dX0_throwOut_68 : decode cX0_throwOut 68 = .ok (.iastore, 1) := by decide +kernel
theorem dX0_throwOut_69 : decode cX0_throwOut 69 = .ok (.aload_n 0, 1) := by decide +kernel
theorem dX0_throwOut_70 : decode cX0_throwOut 70 = .ok (.dup, 1) := by decide +kernel
theorem dX0_throwOut_71 : decode cX0_throwOut 71 = .ok (.getfield 39, 3) := by decide +kernel
theorem dX0_throwOut_74 : decode cX0_throwOut 74 = .ok (.iconst 1, 1) := by decide +kernel
theorem dX0_throwOut_75 : decode cX0_throwOut 75 = .ok (.iadd, 1) := by decide +kernel
theorem dX0_throwOut_76 : decode cX0_throwOut 76 = .ok (.putfield 39, 3) := by decide +kernel
theorem dX0_throwOut_79 : decode cX0_throwOut 79 = .ok (.return_, 1) := by decide +kernel
theorem dX0_leaveBench_0 : decode cX0_leaveBench 0 = .ok (.aload_n 0, 1) := by decide +kernel
theorem dX0_leaveBench_1 : decode cX0_leaveBench 1 = .ok (.dup, 1) := by decide +kernel
theorem dX0_leaveBench_2 : decode cX0_leaveBench 2 = .ok (.getfield 39, 3) := by decide +kernel
theorem dX0_leaveBench_5 : decode cX0_leaveBench 5 = .ok (.iconst 1, 1) := by decide +kernel
theorem dX0_leaveBench_6 : decode cX0_leaveBench 6 = .ok (.isub, 1) := by decide +kernel
theorem dX0_leaveBench_7 : decode cX0_leaveBench 7 = .ok (.putfield 39, 3) := by decide +kernel
theorem dX0_leaveBench_10 : decode cX0_leaveBench 10 = .ok (.iload_n 1, 1) := by decide +kernel
theorem dX0_leaveBench_11 : decode cX0_leaveBench 11 = .ok (.istore_n 2, 1) := by decide +kernel
theorem dX0_leaveBench_12 : decode cX0_leaveBench 12 = .ok (.iload_n 2, 1) := by decide +kernel
theorem dX0_leaveBench_13 : decode cX0_leaveBench 13 = .ok (.aload_n 0, 1) := by decide +kernel
theorem dX0_leaveBench_14 : decode cX0_leaveBench 14 = .ok (.getfield 39, 3) := by decide +kernel
theorem dX0_leaveBench_17 : decode cX0_leaveBench 17 = .ok (.if_icmp .ge 23, 3) := by decide +kernel
theorem dX0_leaveBench_20 : decode cX0_leaveBench 20 = .ok (.aload_n 0, 1) := by decide +kernel
theorem dX0_leaveBench_21 : decode cX0_leaveBench 21 = .ok (.getfield 15, 3) := by decide +kernel
theorem dX0_leaveBench_24 : decode cX0_leaveBench 24 = .ok (.iload_n 2, 1) := by decide +kernel
theorem dX0_leaveBench_25 : decode cX0_leaveBench 25 = .ok (.aload_n 0, 1) := by decide +kernel
theorem dX0_leaveBench_26 : decode cX0_leaveBench 26 = .ok (.getfield 15, 3) := by decide +kernel
theorem dX0_leaveBench_29 : decode cX0_leaveBench 29 = .ok (.iload_n 2, 1) := by decide +kernel
theorem dX0_leaveBench_30 : decode cX0_leaveBench 30 = .ok (.iconst 1, 1) := by decide +kernel
theorem dX0_leaveBench_31 : decode cX0_leaveBench 31 = .ok (.iadd, 1) := by decide +kernel
theorem dX0_leaveBench_32 : decode cX0_leaveBench 32 = .ok (.iaload, 1) := by decide +kernel
theorem dX0_leaveBench_33 : decode cX0_leaveBench 33 = .ok (.iastore, 1) := by decide +kernel
theorem dX0_leaveBench_34 : decode cX0_leaveBench 34 = .ok (.iinc 2 1, 3) := by decide +kernel
theorem dX0_leaveBench_37 : decode cX0_leaveBench 37 = .ok (.goto (-25), 3) := by decide +kernel
theorem dX0_leaveBench_40 : decode cX0_leaveBench 40 = .ok (.return_, 1) := by decide +kernel
set_option maxRecDepth 20000 in
theorem ggX0_bringAllHome_X0_bringHomeIfDirty : GoodIn wsX0_bringAllHome wsX0_bringHomeIfDirty := goodIn_r _ [10, 11, 1, 12, 13, 14, 15, 16, 17, 18, 19, 20, 21, 22, 23] (by decide +kernel) (by decide +kernel)
set_option maxRecDepth 20000 in
theorem gX0_bringAllHome_X0_bringHomeIfDirty : GoodIn wsX0_bringAllHome (wsV RX0 68 RX0 yX0_bringHomeIfDirty wsX0_bringHomeIfDirty) := goodIn_app (goodIn_of _ (by decide +kernel)) ggX0_bringAllHome_X0_bringHomeIfDirty
theorem dX0_bringAllHome_0 : decode cX0_bringAllHome 0 = .ok (.aload_n 0, 1) := by decide +kernel
theorem dX0_bringAllHome_1 : decode cX0_bringAllHome 1 = .ok (.getfield 71, 3) := by decide +kernel
theorem dX0_bringAllHome_4 : decode cX0_bringAllHome 4 = .ok (.istore_n 1, 1) := by decide +kernel
theorem dX0_bringAllHome_5 : decode cX0_bringAllHome 5 = .ok (.iconst 0, 1) := by decide +kernel
theorem dX0_bringAllHome_6 : decode cX0_bringAllHome 6 = .ok (.istore_n 2, 1) := by decide +kernel
theorem dX0_bringAllHome_7 : decode cX0_bringAllHome 7 = .ok (.iload_n 2, 1) := by decide +kernel
theorem dX0_bringAllHome_8 : decode cX0_bringAllHome 8 = .ok (.aload_n 0, 1) := by decide +kernel
theorem dX0_bringAllHome_9 : decode cX0_bringAllHome 9 = .ok (.getfield 26, 3) := by decide +kernel
theorem dX0_bringAllHome_12 : decode cX0_bringAllHome 12 = .ok (.if_icmp .ge 29, 3) := by decide +kernel
theorem dX0_bringAllHome_15 : decode cX0_bringAllHome 15 = .ok (.aload_n 0, 1) := by decide +kernel
theorem dX0_bringAllHome_16 : decode cX0_bringAllHome 16 = .ok (.getfield 9, 3) := by decide +kernel
theorem dX0_bringAllHome_19 : decode cX0_bringAllHome 19 = .ok (.iload_n 2, 1) := by decide +kernel
theorem dX0_bringAllHome_20 : decode cX0_bringAllHome 20 = .ok (.iaload, 1) := by decide +kernel
theorem dX0_bringAllHome_21 : decode cX0_bringAllHome 21 = .ok (.iconst (-1), 1) := by decide +kernel
theorem dX0_bringAllHome_22 : decode cX0_bringAllHome 22 = .ok (.if_icmp .eq 13, 3) := by decide +kernel
theorem dX0_bringAllHome_25 : decode cX0_bringAllHome 25 = .ok (.aload_n 0, 1) := by decide +kernel
theorem dX0_bringAllHome_26 : decode cX0_bringAllHome 26 = .ok (.aload_n 0, 1) := by decide +kernel
theorem dX0_bringAllHome_27 : decode cX0_bringAllHome 27 = .ok (.getfield 9, 3) := by decide +kernel
theorem dX0_bringAllHome_30 : decode cX0_bringAllHome 30 = .ok (.iload_n 2, 1) := by decide +kernel
theorem dX0_bringAllHome_31 : decode cX0_bringAllHome 31 = .ok (.iaload, 1) := by decide +kernel
theorem dX0_bringAllHome_32 : decode cX0_bringAllHome 32 = .ok (.invokevirtual 68, 3) := by decide +kernel
theorem dX0_bringAllHome_35 : decode cX0_bringAllHome 35 = .ok (.iinc 2 1, 3) := by decide +kernel
theorem dX0_bringAllHome_38 : decode cX0_bringAllHome 38 = .ok (.goto (-31), 3) := by decide +kernel
theorem dX0_bringAllHome_41 : decode cX0_bringAllHome 41 = .ok (.iconst 0, 1) := by decide +kernel
theorem dX0_bringAllHome_42 : decode cX0_bringAllHome 42 = .ok (.istore_n 2, 1) := by decide +kernel
theorem dX0_bringAllHome_43 : decode cX0_bringAllHome 43 = .ok (.iload_n 2, 1) := by decide +kernel
theorem dX0_bringAllHome_44 : decode cX0_bringAllHome 44 = .ok (.aload_n 0, 1) := by decide +kernel
theorem dX0_bringAllHome_45 : decode cX0_bringAllHome 45 = .ok (.getfield 39, 3) := by decide +kernel
theorem dX0_bringAllHome_48 : decode cX0_bringAllHome 48 = .ok (.if_icmp .ge 19, 3) := by decide +kernel
theorem dX0_bringAllHome_51 : decode cX0_bringAllHome 51 = .ok (.aload_n 0, 1) := by decide +kernel
theorem dX0_bringAllHome_52 : decode cX0_bringAllHome 52 = .ok (.aload_n 0, 1) := by decide +kernel
theorem dX0_bringAllHome_53 : decode cX0_bringAllHome 53 = .ok (.getfield 15, 3) := by decide +kernel
theorem dX0_bringAllHome_56 : decode cX0_bringAllHome 56 = .ok (.iload_n 2, 1) := by decide +kernel
theorem dX0_bringAllHome_57 : decode cX0_bringAllHome 57 = .ok (.iaload, 1) := by decide +kernel
theorem dX0_bringAllHome_58 : decode cX0_bringAllHome 58 = .ok (.invokevirtual 68, 3) := by decide +kernel
theorem dX0_bringAllHome_61 : decode cX0_bringAllHome 61 = .ok (.iinc 2 1, 3) := by decide +kernel
theorem dX0_bringAllHome_64 : decode cX0_bringAllHome 64 = .ok (.goto (-21), 3) := by decide +kernel
theorem dX0_bringAllHome_67 : decode cX0_bringAllHome 67 = .ok (.aload_n 0, 1) := by decide +kernel
theorem dX0_bringAllHome_68 : decode cX0_bringAllHome 68 = .ok (.getfield 71, 3) := by decide +kernel
theorem dX0_bringAllHome_71 : decode cX0_bringAllHome 71 = .ok (.iload_n 1, 1) := by decide +kernel
theorem dX0_bringAllHome_72 : decode cX0_bringAllHome 72 = .ok (.isub, 1) := by decide +kernel
theorem dX0_bringAllHome_73 : decode cX0_bringAllHome 73 = .ok (.ireturn, 1) := by decide +kernel
theorem dX0_bringHomeIfDirty_0 : decode cX0_bringHomeIfDirty 0 = .ok (.aload_n 0, 1) := by decide +kernel
theorem dX0_bringHomeIfDirty_1 : decode cX0_bringHomeIfDirty 1 = .ok (.getfield 18, 3) := by decide +kernel
theorem dX0_bringHomeIfDirty_4 : decode cX0_bringHomeIfDirty 4 = .ok (.iload_n 1, 1) := by decide +kernel
theorem dX0_bringHomeIfDirty_5 : decode cX0_bringHomeIfDirty 5 = .ok (.baload, 1) := by decide +kernel
theorem dX0_bringHomeIfDirty_6 : decode cX0_bringHomeIfDirty 6 = .ok (.ifCond .eq 31, 3) := by decide +kernel
theorem dX0_bringHomeIfDirty_9 : decode cX0_bringHomeIfDirty 9 = .ok (.aload_n 0, 1) := by decide +kernel
theorem dX0_bringHomeIfDirty_10 : decode cX0_bringHomeIfDirty 10 = .ok (.getfield 18, 3) := by decide +kernel
theorem dX0_bringHomeIfDirty_13 : decode cX0_bringHomeIfDirty 13 = .ok (.iload_n 1, 1) := by decide +kernel
theorem dX0_bringHomeIfDirty_14 : decode cX0_bringHomeIfDirty 14 = .ok (.iconst 0, 1) := by decide +kernel
theorem dX0_bringHomeIfDirty_15 : decode cX0_bringHomeIfDirty 15 = .ok (.bastore, 1) := by decide +kernel
theorem dX0_bringHomeIfDirty_16 : decode cX0_bringHomeIfDirty 16 = .ok (.aload_n 0, 1) := by decide +kernel
theorem dX0_bringHomeIfDirty_17 : decode cX0_bringHomeIfDirty 17 = .ok (.dup, 1) := by decide +kernel
theorem dX0_bringHomeIfDirty_18 : decode cX0_bringHomeIfDirty 18 = .ok (.getfield 71, 3) := by decide +kernel
theorem dX0_bringHomeIfDirty_21 : decode cX0_bringHomeIfDirty 21 = .ok (.iconst 1, 1) := by decide +kernel
theorem dX0_bringHomeIfDirty_22 : decode cX0_bringHomeIfDirty 22 = .ok (.iadd, 1) := by decide +kernel
theorem dX0_bringHomeIfDirty_23 : decode cX0_bringHomeIfDirty 23 = .ok (.putfield 71, 3) := by decide +kernel
theorem dX0_bringHomeIfDirty_26 : decode cX0_bringHomeIfDirty 26 = .ok (.aload_n 0, 1) := by decide +kernel
theorem dX0_bringHomeIfDirty_27 : decode cX0_bringHomeIfDirty 27 = .ok (.dup, 1) := by decide +kernel
theorem dX0_bringHomeIfDirty_28 : decode cX0_bringHomeIfDirty 28 = .ok (.getfield 49, 3) := by decide +kernel
theorem dX0_bringHomeIfDirty_31 : decode cX0_bringHomeIfDirty 31 = .ok (.bipush 10, 2) := by decide +kernel
theorem dX0_bringHomeIfDirty_33 : decode cX0_bringHomeIfDirty 33 = .ok (.iadd, 1) := by decide +kernel
theorem dX0_bringHomeIfDirty_34 : decode cX0_bringHomeIfDirty 34 = .ok (.putfield 49, 3) := by decide +kernel
theorem dX0_bringHomeIfDirty_37 : decode cX0_bringHomeIfDirty 37 = .ok (.return_, 1) := by decide +kernel
theorem dX0_countLines_0 : decode cX0_countLines 0 = .ok (.aload_n 0, 1) := by decide +kernel
theorem dX0_countLines_1 : decode cX0_countLines 1 = .ok (.getfield 39, 3) := by decide +kernel
theorem dX0_countLines_4 : decode cX0_countLines 4 = .ok (.istore_n 1, 1) := by decide +kernel
theorem dX0_countLines_5 : decode cX0_countLines 5 = .ok (.iconst 0, 1) := by decide +kernel
theorem dX0_countLines_6 : decode cX0_countLines 6 = .ok (.istore_n 2, 1) := by decide +kernel
theorem dX0_countLines_7 : decode cX0_countLines 7 = .ok (.iload_n 2, 1) := by decide +kernel
theorem dX0_countLines_8 : decode cX0_countLines 8 = .ok (.aload_n 0, 1) := by decide +kernel
theorem dX0_countLines_9 : decode cX0_countLines 9 = .ok (.getfield 26, 3) := by decide +kernel
theorem dX0_countLines_12 : decode cX0_countLines 12 = .ok (.if_icmp .ge 22, 3) := by decide +kernel
theorem dX0_countLines_15 : decode cX0_countLines 15 = .ok (.aload_n 0, 1) := by decide +kernel
theorem dX0_countLines_16 : decode cX0_countLines 16 = .ok (.getfield 9, 3) := by decide +kernel
theorem dX0_countLines_19 : decode cX0_countLines 19 = .ok (.iload_n 2, 1) := by decide +kernel
theorem dX0_countLines_20 : decode cX0_countLines 20 = .ok (.iaload, 1) := by decide +kernel
theorem dX0_countLines_21 : decode cX0_countLines 21 = .ok (.iconst (-1), 1) := by decide +kernel
theorem dX0_countLines_22 : decode cX0_countLines 22 = .ok (.if_icmp .eq 6, 3) := by decide +kernel
theorem dX0_countLines_25 : decode cX0_countLines 25 = .ok (.iinc 1 1, 3) := by decide +kernel
theorem dX0_countLines_28 : decode cX0_countLines 28 = .ok (.iinc 2 1, 3) := by decide +kernel
theorem dX0_countLines_31 : decode cX0_countLines 31 = .ok (.goto (-24), 3) := by decide +kernel
theorem dX0_countLines_34 : decode cX0_countLines 34 = .ok (.iload_n 1, 1) := by decide +kernel
theorem dX0_countLines_35 : decode cX0_countLines 35 = .ok (.ireturn, 1) := by decide +kernel
theorem dX0_countDirty_0 : decode cX0_countDirty 0 = .ok (.iconst 0, 1) := by decide +kernel
theorem dX0_countDirty_1 : decode cX0_countDirty 1 = .ok (.istore_n 1, 1) := by decide +kernel
theorem dX0_countDirty_2 : decode cX0_countDirty 2 = .ok (.iconst 0, 1) := by decide +kernel
theorem dX0_countDirty_3 : decode cX0_countDirty 3 = .ok (.istore_n 2, 1) := by decide +kernel
theorem dX0_countDirty_4 : decode cX0_countDirty 4 = .ok (.iload_n 2, 1) := by decide +kernel
theorem dX0_countDirty_5 : decode cX0_countDirty 5 = .ok (.sipush 256, 3) := by decide +kernel
theorem dX0_countDirty_8 : decode cX0_countDirty 8 = .ok (.if_icmp .ge 21, 3) := by decide +kernel
theorem dX0_countDirty_11 : decode cX0_countDirty 11 = .ok (.aload_n 0, 1) := by decide +kernel
theorem dX0_countDirty_12 : decode cX0_countDirty 12 = .ok (.getfield 18, 3) := by decide +kernel
theorem dX0_countDirty_15 : decode cX0_countDirty 15 = .ok (.iload_n 2, 1) := by decide +kernel
theorem dX0_countDirty_16 : decode cX0_countDirty 16 = .ok (.baload, 1) := by decide +kernel
theorem dX0_countDirty_17 : decode cX0_countDirty 17 = .ok (.ifCond .eq 6, 3) := by decide +kernel
theorem dX0_countDirty_20 : decode cX0_countDirty 20 = .ok (.iinc 1 1, 3) := by decide +kernel
theorem dX0_countDirty_23 : decode cX0_countDirty 23 = .ok (.iinc 2 1, 3) := by decide +kernel
theorem dX0_countDirty_26 : decode cX0_countDirty 26 = .ok (.goto (-22), 3) := by decide +kernel
theorem dX0_countDirty_29 : decode cX0_countDirty 29 = .ok (.iload_n 1, 1) := by decide +kernel
theorem dX0_countDirty_30 : decode cX0_countDirty 30 = .ok (.ireturn, 1) := by decide +kernel
set_option maxRecDepth 20000 in
theorem ggX0_whereIs_X0_setOf : GoodIn wsX0_whereIs wsX0_setOf := goodIn_r _ [6, 7, 14, 15, 16, 17, 18, 19, 20, 21, 22, 23, 24] (by decide +kernel) (by decide +kernel)
set_option maxRecDepth 20000 in
theorem gX0_whereIs_X0_setOf : GoodIn wsX0_whereIs (wsV RX0 42 RX0 yX0_setOf wsX0_setOf) := goodIn_app (goodIn_of _ (by decide +kernel)) ggX0_whereIs_X0_setOf
set_option maxRecDepth 20000 in
theorem ggX0_whereIs_X0_seatOf : GoodIn wsX0_whereIs wsX0_seatOf := goodIn_r _ [11, 12, 13, 14, 15, 16, 17, 18, 19, 20, 21, 22, 23, 24] (by decide +kernel) (by decide +kernel)
set_option maxRecDepth 20000 in
theorem gX0_whereIs_X0_seatOf : GoodIn wsX0_whereIs (wsV RX0 52 RX0 yX0_seatOf wsX0_seatOf) := goodIn_app (goodIn_of _ (by decide +kernel)) ggX0_whereIs_X0_seatOf
theorem dX0_whereIs_0 : decode cX0_whereIs 0 = .ok (.aload_n 0, 1) := by decide +kernel
theorem dX0_whereIs_1 : decode cX0_whereIs 1 = .ok (.getfield 9, 3) := by decide +kernel
theorem dX0_whereIs_4 : decode cX0_whereIs 4 = .ok (.aload_n 0, 1) := by decide +kernel
theorem dX0_whereIs_5 : decode cX0_whereIs 5 = .ok (.iload_n 1, 1) := by decide +kernel
theorem dX0_whereIs_6 : decode cX0_whereIs 6 = .ok (.invokevirtual 42, 3) := by decide +kernel
theorem dX0_whereIs_9 : decode cX0_whereIs 9 = .ok (.iaload, 1) := by decide +kernel
theorem dX0_whereIs_10 : decode cX0_whereIs 10 = .ok (.iload_n 1, 1) := by decide +kernel
theorem dX0_whereIs_11 : decode cX0_whereIs 11 = .ok (.if_icmp .ne 5, 3) := by decide +kernel
theorem dX0_whereIs_14 : decode cX0_whereIs 14 = .ok (.iconst 1, 1) := by decide +kernel
theorem dX0_whereIs_15 : decode cX0_whereIs 15 = .ok (.ireturn, 1) := by decide +kernel
theorem dX0_whereIs_16 : decode cX0_whereIs 16 = .ok (.aload_n 0, 1) := by decide +kernel
theorem dX0_whereIs_17 : decode cX0_whereIs 17 = .ok (.iload_n 1, 1) := by decide +kernel
theorem dX0_whereIs_18 : decode cX0_whereIs 18 = .ok (.invokevirtual 52, 3) := by decide +kernel
theorem dX0_whereIs_21 : decode cX0_whereIs 21 = .ok (.iconst (-1), 1) := by decide +kernel
theorem dX0_whereIs_22 : decode cX0_whereIs 22 = .ok (.if_icmp .ne 7, 3) := by decide +kernel
theorem dX0_whereIs_25 : decode cX0_whereIs 25 = .ok (.iconst 0, 1) := by decide +kernel
theorem dX0_whereIs_26 : decode cX0_whereIs 26 = .ok (.goto 4, 3) := by decide +kernel
theorem dX0_whereIs_29 : decode cX0_whereIs 29 = .ok (.iconst 2, 1) := by decide +kernel
theorem dX0_whereIs_30 : decode cX0_whereIs 30 = .ok (.ireturn, 1) := by decide +kernel
theorem dX0_setOf_0 : decode cX0_setOf 0 = .ok (.iload_n 1, 1) := by decide +kernel
theorem dX0_setOf_1 : decode cX0_setOf 1 = .ok (.aload_n 0, 1) := by decide +kernel
theorem dX0_setOf_2 : decode cX0_setOf 2 = .ok (.getfield 26, 3) := by decide +kernel
theorem dX0_setOf_5 : decode cX0_setOf 5 = .ok (.iconst 1, 1) := by decide +kernel
theorem dX0_setOf_6 : decode cX0_setOf 6 = .ok (.isub, 1) := by decide +kernel
theorem dX0_setOf_7 : decode cX0_setOf 7 = .ok (.iand, 1) := by decide +kernel
theorem dX0_setOf_8 : decode cX0_setOf 8 = .ok (.ireturn, 1) := by decide +kernel
theorem dX0_seatOf_0 : decode cX0_seatOf 0 = .ok (.iconst 0, 1) := by decide +kernel
theorem dX0_seatOf_1 : decode cX0_seatOf 1 = .ok (.istore_n 2, 1) := by decide +kernel
theorem dX0_seatOf_2 : decode cX0_seatOf 2 = .ok (.iload_n 2, 1) := by decide +kernel
theorem dX0_seatOf_3 : decode cX0_seatOf 3 = .ok (.aload_n 0, 1) := by decide +kernel
theorem dX0_seatOf_4 : decode cX0_seatOf 4 = .ok (.getfield 39, 3) := by decide +kernel
theorem dX0_seatOf_7 : decode cX0_seatOf 7 = .ok (.if_icmp .ge 21, 3) := by decide +kernel
theorem dX0_seatOf_10 : decode cX0_seatOf 10 = .ok (.aload_n 0, 1) := by decide +kernel
theorem dX0_seatOf_11 : decode cX0_seatOf 11 = .ok (.getfield 15, 3) := by decide +kernel
theorem dX0_seatOf_14 : decode cX0_seatOf 14 = .ok (.iload_n 2, 1) := by decide +kernel
theorem dX0_seatOf_15 : decode cX0_seatOf 15 = .ok (.iaload, 1) := by decide +kernel
theorem dX0_seatOf_16 : decode cX0_seatOf 16 = .ok (.iload_n 1, 1) := by decide +kernel
theorem dX0_seatOf_17 : decode cX0_seatOf 17 = .ok (.if_icmp .ne 5, 3) := by decide +kernel
theorem dX0_seatOf_20 : decode cX0_seatOf 20 = .ok (.iload_n 2, 1) := by decide +kernel
theorem dX0_seatOf_21 : decode cX0_seatOf 21 = .ok (.ireturn, 1) := by decide +kernel
theorem dX0_seatOf_22 : decode cX0_seatOf 22 = .ok (.iinc 2 1, 3) := by decide +kernel
theorem dX0_seatOf_25 : decode cX0_seatOf 25 = .ok (.goto (-23), 3) := by decide +kernel
theorem dX0_seatOf_28 : decode cX0_seatOf 28 = .ok (.iconst (-1), 1) := by decide +kernel
theorem dX0_seatOf_29 : decode cX0_seatOf 29 = .ok (.ireturn, 1) := by decide +kernel
theorem dX1_init_0 : decode cX1_init 0 = .ok (.aload_n 0, 1) := by decide +kernel
theorem dX1_init_1 : decode cX1_init 1 = .ok (.invokespecial 3, 3) := by decide +kernel
theorem dX1_init_4 : decode cX1_init 4 = .ok (.aload_n 0, 1) := by decide +kernel
theorem dX1_init_5 : decode cX1_init 5 = .ok (.sipush 150, 3) := by decide +kernel
theorem dX1_init_8 : decode cX1_init 8 = .ok (.newarray .int, 2) := by decide +kernel
theorem dX1_init_10 : decode cX1_init 10 = .ok (.putfield 9, 3) := by decide +kernel
theorem dX1_init_13 : decode cX1_init 13 = .ok (.aload_n 0, 1) := by decide +kernel
theorem dX1_init_14 : decode cX1_init 14 = .ok (.sipush 150, 3) := by decide +kernel
theorem dX1_init_17 : decode cX1_init 17 = .ok (.newarray .boolean, 2) := by decide +kernel
theorem dX1_init_19 : decode cX1_init 19 = .ok (.putfield 15, 3) := by decide +kernel
theorem dX1_init_22 : decode cX1_init 22 = .ok (.return_, 1) := by decide +kernel
theorem dX1_add_0 : decode cX1_add 0 = .ok (.aload_n 0, 1) := by decide +kernel
theorem dX1_add_1 : decode cX1_add 1 = .ok (.getfield 9, 3) := by decide +kernel
theorem dX1_add_4 : decode cX1_add 4 = .ok (.aload_n 0, 1) := by decide +kernel
theorem dX1_add_5 : decode cX1_add 5 = .ok (.getfield 19, 3) := by decide +kernel
theorem dX1_add_8 : decode cX1_add 8 = .ok (.iload_n 1, 1) := by decide +kernel
theorem dX1_add_9 : decode cX1_add 9 = .ok (.iastore, 1) := by decide +kernel
theorem dX1_add_10 : decode cX1_add 10 = .ok (.aload_n 0, 1) := by decide +kernel
theorem dX1_add_11 : decode cX1_add 11 = .ok (.getfield 15, 3) := by decide +kernel
theorem dX1_add_14 : decode cX1_add 14 = .ok (.aload_n 0, 1) := by decide +kernel
theorem dX1_add_15 : decode cX1_add 15 = .ok (.getfield 19, 3) := by decide +kernel
theorem dX1_add_18 : decode cX1_add 18 = .ok (.iload_n 2, 1) := by decide +kernel
theorem dX1_add_19 : decode cX1_add 19 = .ok (.bastore, 1) := by decide +kernel
theorem dX1_add_20 : decode cX1_add 20 = .ok (.aload_n 0, 1) := by decide +kernel
theorem dX1_add_21 : decode cX1_add 21 = .ok (.aload_n 0, 1) := by decide +kernel
theorem dX1_add_22 : decode cX1_add 22 = .ok (.getfield 19, 3) := by decide +kernel
theorem dX1_add_25 : decode cX1_add 25 = .ok (.iconst 1, 1) := by decide +kernel
theorem dX1_add_26 : decode cX1_add 26 = .ok (.iadd, 1) := by decide +kernel
theorem dX1_add_27 : decode cX1_add 27 = .ok (.sipush 150, 3) := by decide +kernel
theorem dX1_add_30 : decode cX1_add 30 = .ok (.if_icmp .ge 12, 3) := by decide +kernel
theorem dX1_add_33 : decode cX1_add 33 = .ok (.aload_n 0, 1) := by decide +kernel
theorem dX1_add_34 : decode cX1_add 34 = .ok (.getfield 19, 3) := by decide +kernel
theorem dX1_add_37 : decode cX1_add 37 = .ok (.iconst 1, 1) := by decide +kernel
theorem dX1_add_38 : decode cX1_add 38 = .ok (.iadd, 1) := by decide +kernel
theorem dX1_add_39 : decode cX1_add 39 = .ok (.goto 4, 3) := by decide +kernel
theorem dX1_add_42 : decode cX1_add 42 = .ok (.iconst 0, 1) := by decide +kernel
theorem dX1_add_43 : decode cX1_add 43 = .ok (.putfield 19, 3) := by decide +kernel
theorem dX1_add_46 : decode cX1_add 46 = .ok (.aload_n 0, 1) := by decide +kernel
theorem dX1_add_47 : decode cX1_add 47 = .ok (.getfield 23, 3) := by decide +kernel
theorem dX1_add_50 : decode cX1_add 50 = .ok (.sipush 150, 3) := by decide +kernel
theorem dX1_add_53 : decode cX1_add 53 = .ok (.if_icmp .ge 13, 3) := by decide +kernel
theorem dX1_add_56 : decode cX1_add 56 = .ok (.aload_n 0, 1) := by decide +kernel
theorem dX1_add_57 : decode cX1_add 57 = .ok (.dup, 1) := by decide +kernel
theorem dX1_add_58 : decode cX1_add 58 = .ok (.getfield 23, 3) := by decide +kernel
theorem dX1_add_61 : decode cX1_add 61 = .ok (.iconst 1, 1) := by decide +kernel
theorem dX1_add_62 : decode cX1_add 62 = .ok (.iadd, 1) := by decide +kernel
theorem dX1_add_63 : decode cX1_add 63 = .ok (.putfield 23, 3) := by decide +kernel
theorem dX1_add_66 : decode cX1_add 66 = .ok (.return_, 1) := by decide +kernel
theorem dX1_slotOf_0 : decode cX1_slotOf 0 = .ok (.aload_n 0, 1) := by decide +kernel
theorem dX1_slotOf_1 : decode cX1_slotOf 1 = .ok (.getfield 23, 3) := by decide +kernel
theorem dX1_slotOf_4 : decode cX1_slotOf 4 = .ok (.sipush 150, 3) := by decide +kernel
theorem dX1_slotOf_7 : decode cX1_slotOf 7 = .ok (.if_icmp .ge 7, 3) := by decide +kernel
theorem dX1_slotOf_10 : decode cX1_slotOf 10 = .ok (.iconst 0, 1) := by decide +kernel
theorem dX1_slotOf_11 : decode cX1_slotOf 11 = .ok (.goto 7, 3) := by decide +kernel
theorem dX1_slotOf_14 : decode cX1_slotOf 14 = .ok (.aload_n 0, 1) := by decide +kernel
theorem dX1_slotOf_15 : decode cX1_slotOf 15 = .ok (.getfield 19, 3) := by decide +kernel
theorem dX1_slotOf_18 : decode cX1_slotOf 18 = .ok (.istore_n 2, 1) := by decide +kernel
theorem dX1_slotOf_19 : decode cX1_slotOf 19 = .ok (.iload_n 2, 1) := by decide +kernel
theorem dX1_slotOf_20 : decode cX1_slotOf 20 = .ok (.iload_n 1, 1) := by decide +kernel
theorem dX1_slotOf_21 : decode cX1_slotOf 21 = .ok (.iadd, 1) := by decide +kernel
theorem dX1_slotOf_22 : decode cX1_slotOf 22 = .ok (.sipush 150, 3) := by decide +kernel
theorem dX1_slotOf_25 : decode cX1_slotOf 25 = .ok (.irem, 1) := by decide +kernel
theorem dX1_slotOf_26 : decode cX1_slotOf 26 = .ok (.ireturn, 1) := by decide +kernel
set_option maxRecDepth 20000 in
theorem ggX2_init_X0_init : GoodIn wsX2_init wsX0_init := goodIn_r _ [18, 19, 2, 3, 4, 20, 21, 22, 23, 24, 25, 26, 9, 27, 28, 29, 30, 31, 32, 33, 34, 45, 46, 47, 48, 49, 50, 51, 52, 53, 54, 55] (by decide +kernel) (by decide +kernel)
set_option maxRecDepth 20000 in
theorem gX2_init_X0_init : GoodIn wsX2_init (wsX0_init) := ggX2_init_X0_init
set_option maxRecDepth 20000 in
theorem ggX2_init_X1_init : GoodIn wsX2_init wsX1_init := goodIn_r _ [36, 37, 2, 3, 4, 38, 22, 39, 56, 57, 58, 59] (by decide +kernel) (by decide +kernel)
set_option maxRecDepth 20000 in
theorem gX2_init_X1_init_n30 : GoodIn wsX2_init (wsX1_init) := ggX2_init_X1_init
theorem dX2_init_0 : decode cX2_init 0 = .ok (.aload_n 0, 1) := by decide +kernel
theorem dX2_init_1 : decode cX2_init 1 = .ok (.invokespecial 3, 3) := by decide +kernel
theorem dX2_init_4 : decode cX2_init 4 = .ok (.aload_n 0, 1) := by decide +kernel
theorem dX2_init_5 : decode cX2_init 5 = .ok (.sipush 1024, 3) := by decide +kernel
theorem dX2_init_8 : decode cX2_init 8 = .ok (.newarray .int, 2) := by decide +kernel
theorem dX2_init_10 : decode cX2_init 10 = .ok (.putfield 9, 3) := by decide +kernel
theorem dX2_init_13 : decode cX2_init 13 = .ok (.aload_n 0, 1) := by decide +kernel
theorem dX2_init_14 : decode cX2_init 14 = .ok (.sipush 1024, 3) := by decide +kernel
theorem dX2_init_17 : decode cX2_init 17 = .ok (.newarray .int, 2) := by decide +kernel
theorem dX2_init_19 : decode cX2_init 19 = .ok (.putfield 13, 3) := by decide +kernel
theorem dX2_init_22 : decode cX2_init 22 = .ok (.aload_n 0, 1) := by decide +kernel
theorem dX2_init_23 : decode cX2_init 23 = .ok (.new 16, 3) := by decide +kernel
theorem dX2_init_26 : decode cX2_init 26 = .ok (.dup, 1) := by decide +kernel
theorem dX2_init_27 : decode cX2_init 27 = .ok (.iconst 4, 1) := by decide +kernel
theorem dX2_init_28 : decode cX2_init 28 = .ok (.iconst 2, 1) := by decide +kernel
theorem dX2_init_29 : decode cX2_init 29 = .ok (.invokespecial 18, 3) := by decide +kernel
theorem dX2_init_32 : decode cX2_init 32 = .ok (.putfield 21, 3) := by decide +kernel
theorem dX2_init_35 : decode cX2_init 35 = .ok (.aload_n 0, 1) := by decide +kernel
theorem dX2_init_36 : decode cX2_init 36 = .ok (.new 16, 3) := by decide +kernel
theorem dX2_init_39 : decode cX2_init 39 = .ok (.dup, 1) := by decide +kernel
theorem dX2_init_40 : decode cX2_init 40 = .ok (.iconst 4, 1) := by decide +kernel
theorem dX2_init_41 : decode cX2_init 41 = .ok (.iconst 2, 1) := by decide +kernel
theorem dX2_init_42 : decode cX2_init 42 = .ok (.invokespecial 18, 3) := by decide +kernel
theorem dX2_init_45 : decode cX2_init 45 = .ok (.putfield 25, 3) := by decide +kernel
theorem dX2_init_48 : decode cX2_init 48 = .ok (.aload_n 0, 1) := by decide +kernel
theorem dX2_init_49 : decode cX2_init 49 = .ok (.new 28, 3) := by decide +kernel
theorem dX2_init_52 : decode cX2_init 52 = .ok (.dup, 1) := by decide +kernel
theorem dX2_init_53 : decode cX2_init 53 = .ok (.invokespecial 30, 3) := by decide +kernel
theorem dX2_init_56 : decode cX2_init 56 = .ok (.putfield 31, 3) := by decide +kernel
theorem dX2_init_59 : decode cX2_init 59 = .ok (.return_, 1) := by decide +kernel
set_option maxRecDepth 20000 in
theorem ggX2_read_X2_requireWord : GoodIn wsX2_read wsX2_requireWord := goodIn_ca (goodIn_r _ [5, 6, 7] (by decide +kernel) (by decide +kernel)) (goodIn_sub (fun _ h => List.mem_cons_of_mem _ (List.mem_append_right _ h)) (by decide +kernel))
set_option maxRecDepth 20000 in
theorem gX2_read_X2_requireWord : GoodIn wsX2_read (va_wsS RX2 35 yX2_requireWord wsX2_requireWord) := goodIn_app (goodIn_of _ (by decide +kernel)) ggX2_read_X2_requireWord
set_option maxRecDepth 20000 in
theorem ggX2_read_X2_lineOf : GoodIn wsX2_read wsX2_lineOf := goodIn_r _ [10] (by decide +kernel) (by decide +kernel)
set_option maxRecDepth 20000 in
theorem gX2_read_X2_lineOf : GoodIn wsX2_read (va_wsS RX2 39 yX2_lineOf wsX2_lineOf) := goodIn_app (goodIn_of _ (by decide +kernel)) ggX2_read_X2_lineOf
set_option maxRecDepth 20000 in
theorem ggX2_read_X2_ask : GoodIn wsX2_read wsX2_ask := goodIn_r _ [14, 15, 16, 17, 18, 19, 20, 21, 22, 23, 24, 25, 26, 27, 28, 29, 30, 31, 32, 33, 34, 35, 36, 37, 38, 39, 40, 41, 42, 43, 44, 45, 46, 47, 48, 49, 50, 51, 52, 53, 54, 55, 56, 57, 58, 59, 60, 61, 62, 63, 64, 65, 66, 67, 68, 69, 70, 71, 72, 73, 74, 75, 76, 77, 78, 79, 80, 81] (by decide +kernel) (by decide +kernel)
set_option maxRecDepth 20000 in
theorem gX2_read_X2_ask : GoodIn wsX2_read (wsV RX2 43 RX2 yX2_ask wsX2_ask) := goodIn_app (goodIn_of _ (by decide +kernel)) ggX2_read_X2_ask
theorem dX2_read_0 : decode cX2_read 0 = .ok (.iload_n 1, 1) := by decide +kernel
theorem dX2_read_1 : decode cX2_read 1 = .ok (.invokestatic 35, 3) := by decide +kernel
theorem dX2_read_4 : decode cX2_read 4 = .ok (.aload_n 0, 1) := by decide +kernel
theorem dX2_read_5 : decode cX2_read 5 = .ok (.iload_n 1, 1) := by decide +kernel
theorem dX2_read_6 : decode cX2_read 6 = .ok (.invokestatic 39, 3) := by decide +kernel
theorem dX2_read_9 : decode cX2_read 9 = .ok (.iconst 0, 1) := by decide +kernel
theorem dX2_read_10 : decode cX2_read 10 = .ok (.invokevirtual 43, 3) := by decide +kernel
theorem dX2_read_13 : decode cX2_read 13 = .ok (.aload_n 0, 1) := by decide +kernel
theorem dX2_read_14 : decode cX2_read 14 = .ok (.getfield 9, 3) := by decide +kernel
theorem dX2_read_17 : decode cX2_read 17 = .ok (.iload_n 1, 1) := by decide +kernel
theorem dX2_read_18 : decode cX2_read 18 = .ok (.iaload, 1) := by decide +kernel
theorem dX2_read_19 : decode cX2_read 19 = .ok (.ireturn, 1) := by decide +kernel
set_option maxRecDepth 20000 in
theorem ggX2_write_X2_requireWord : GoodIn wsX2_write wsX2_requireWord := goodIn_ca (goodIn_r _ [7, 8, 9] (by decide +kernel) (by decide +kernel)) (goodIn_sub (fun _ h => List.mem_cons_of_mem _ (List.mem_append_right _ h)) (by decide +kernel))
set_option maxRecDepth 20000 in
theorem gX2_write_X2_requireWord : GoodIn wsX2_write (va_wsS RX2 35 yX2_requireWord wsX2_requireWord) := goodIn_app (goodIn_of _ (by decide +kernel)) ggX2_write_X2_requireWord
set_option maxRecDepth 20000 in
theorem ggX2_write_X2_lineOf : GoodIn wsX2_write wsX2_lineOf := goodIn_r _ [12] (by decide +kernel) (by decide +kernel)
set_option maxRecDepth 20000 in
theorem gX2_write_X2_lineOf : GoodIn wsX2_write (va_wsS RX2 39 yX2_lineOf wsX2_lineOf) := goodIn_app (goodIn_of _ (by decide +kernel)) ggX2_write_X2_lineOf
set_option maxRecDepth 20000 in
theorem ggX2_write_X2_keepHomeWords : GoodIn wsX2_write wsX2_keepHomeWords := goodIn_r _ [16, 3, 17, 18, 19, 20, 21, 72, 73, 74, 75, 76] (by decide +kernel) (by decide +kernel)
set_option maxRecDepth 20000 in
theorem gX2_write_X2_keepHomeWords : GoodIn wsX2_write (wsV RX2 51 RX2 yX2_keepHomeWords wsX2_keepHomeWords) := goodIn_app (goodIn_of _ (by decide +kernel)) ggX2_write_X2_keepHomeWords
set_option maxRecDepth 20000 in
theorem ggX2_write_X2_ask : GoodIn wsX2_write wsX2_ask := goodIn_r _ [25, 1, 26, 27, 28, 29, 30, 31, 32, 33, 34, 35, 36, 37, 38, 39, 40, 41, 42, 43, 44, 45, 46, 47, 48, 49, 50, 51, 52, 53, 54, 55, 56, 57, 58, 59, 60, 61, 62, 63, 64, 65, 66, 67, 68, 69, 70, 71, 72, 73, 74, 75, 76, 77, 78, 79, 80, 81, 82, 83, 84, 85, 86, 87, 88, 89, 90, 91] (by decide +kernel) (by decide +kernel)
set_option maxRecDepth 20000 in
theorem gX2_write_X2_ask : GoodIn wsX2_write (wsV RX2 43 RX2 yX2_ask wsX2_ask) := goodIn_app (goodIn_of _ (by decide +kernel)) ggX2_write_X2_ask
theorem dX2_write_0 : decode cX2_write 0 = .ok (.iload_n 1, 1) := by decide +kernel
theorem dX2_write_1 : decode cX2_write 1 = .ok (.invokestatic 35, 3) := by decide +kernel
theorem dX2_write_4 : decode cX2_write 4 = .ok (.iload_n 1, 1) := by decide +kernel
theorem dX2_write_5 : decode cX2_write 5 = .ok (.invokestatic 39, 3) := by decide +kernel
theorem dX2_write_8 : decode cX2_write 8 = .ok (.istore_n 3, 1) := by decide +kernel
theorem dX2_write_9 : decode cX2_write 9 = .ok (.aload_n 0, 1) := by decide +kernel
theorem dX2_write_10 : decode cX2_write 10 = .ok (.getfield 21, 3) := by decide +kernel
theorem dX2_write_13 : decode cX2_write 13 = .ok (.getfield 47, 3) := by decide +kernel
theorem dX2_write_16 : decode cX2_write 16 = .ok (.iload_n 3, 1) := by decide +kernel
theorem dX2_write_17 : decode cX2_write 17 = .ok (.baload, 1) := by decide +kernel
theorem dX2_write_18 : decode cX2_write 18 = .ok (.ifCond .ne 8, 3) := by decide +kernel
theorem dX2_write_21 : decode cX2_write 21 = .ok (.aload_n 0, 1) := by decide +kernel
theorem dX2_write_22 : decode cX2_write 22 = .ok (.iload_n 3, 1) := by decide +kernel
theorem dX2_write_23 : decode cX2_write 23 = .ok (.invokevirtual 51, 3) := by decide +kernel
theorem dX2_write_26 : decode cX2_write 26 = .ok (.aload_n 0, 1) := by decide +kernel
theorem dX2_write_27 : decode cX2_write 27 = .ok (.iload_n 3, 1) := by decide +kernel
theorem dX2_write_28 : decode cX2_write 28 = .ok (.iconst 1, 1) := by decide +kernel
theorem dX2_write_29 : decode cX2_write 29 = .ok (.invokevirtual 43, 3) := by decide +kernel
theorem dX2_write_32 : decode cX2_write 32 = .ok (.aload_n 0, 1) := by decide +kernel
theorem dX2_write_33 : decode cX2_write 33 = .ok (.getfield 9, 3) := by decide +kernel
theorem dX2_write_36 : decode cX2_write 36 = .ok (.iload_n 1, 1) := by decide +kernel
theorem dX2_write_37 : decode cX2_write 37 = .ok (.iaload, 1) := by decide +kernel
theorem dX2_write_38 : decode cX2_write 38 = .ok (.istore 4, 2) := by decide +kernel
theorem dX2_write_40 : decode cX2_write 40 = .ok (.aload_n 0, 1) := by decide +kernel
theorem dX2_write_41 : decode cX2_write 41 = .ok (.getfield 9, 3) := by decide +kernel
theorem dX2_write_44 : decode cX2_write 44 = .ok (.iload_n 1, 1) := by decide +kernel
theorem dX2_write_45 : decode cX2_write 45 = .ok (.iload_n 2, 1) := by decide +kernel
theorem dX2_write_46 : decode cX2_write 46 = .ok (.iastore, 1) := by decide +kernel
theorem dX2_write_47 : decode cX2_write 47 = .ok (.iload 4, 2) := by decide +kernel
theorem dX2_write_49 : decode cX2_write 49 = .ok (.ireturn, 1) := by decide +kernel
set_option maxRecDepth 20000 in
theorem ggX2_walk_X2_requireWord : GoodIn wsX2_walk wsX2_requireWord := goodIn_ca (goodIn_r _ [8, 9, 10] (by decide +kernel) (by decide +kernel)) (goodIn_sub (fun _ h => List.mem_cons_of_mem _ (List.mem_append_right _ h)) (by decide +kernel))
set_option maxRecDepth 20000 in
theorem gX2_walk_X2_requireWord : GoodIn wsX2_walk (va_wsS RX2 35 yX2_requireWord wsX2_requireWord) := goodIn_app (goodIn_of _ (by decide +kernel)) ggX2_walk_X2_requireWord
set_option maxRecDepth 20000 in
theorem ggX2_walk_X2_lineOf : GoodIn wsX2_walk wsX2_lineOf := goodIn_r _ [13] (by decide +kernel) (by decide +kernel)
set_option maxRecDepth 20000 in
theorem gX2_walk_X2_lineOf : GoodIn wsX2_walk (va_wsS RX2 39 yX2_lineOf wsX2_lineOf) := goodIn_app (goodIn_of _ (by decide +kernel)) ggX2_walk_X2_lineOf
set_option maxRecDepth 20000 in
theorem ggX2_walk_X2_ask : GoodIn wsX2_walk wsX2_ask := goodIn_r _ [17, 3, 18, 19, 20, 21, 22, 23, 24, 25, 26, 27, 28, 29, 30, 31, 32, 33, 34, 35, 36, 37, 38, 39, 40, 41, 42, 43, 44, 45, 46, 47, 48, 49, 50, 51, 52, 53, 54, 55, 56, 57, 58, 59, 60, 61, 62, 63, 68, 69, 70, 71, 72, 73, 74, 75, 76, 77, 78, 79, 80, 81, 82, 83, 84, 85, 86, 87] (by decide +kernel) (by decide +kernel)
set_option maxRecDepth 20000 in
theorem gX2_walk_X2_ask : GoodIn wsX2_walk (wsV RX2 43 RX2 yX2_ask wsX2_ask) := goodIn_app (goodIn_of _ (by decide +kernel)) ggX2_walk_X2_ask
set_option maxRecDepth 20000 in
theorem ggX2_walk_J9_floorMod_7cf53 : GoodIn wsX2_walk wsJ9_floorMod_7cf53 := goodIn_r _ [67] (by decide +kernel) (by decide +kernel)
set_option maxRecDepth 20000 in
theorem gX2_walk_J9_floorMod_7cf53 : GoodIn wsX2_walk (va_wsS RX2 65 yJ9_floorMod_7cf53 wsJ9_floorMod_7cf53) := goodIn_app (goodIn_of _ (by decide +kernel)) ggX2_walk_J9_floorMod_7cf53
theorem dX2_walk_0 : decode cX2_walk 0 = .ok (.iload_n 1, 1) := by decide +kernel
theorem dX2_walk_1 : decode cX2_walk 1 = .ok (.invokestatic 35, 3) := by decide +kernel
theorem dX2_walk_4 : decode cX2_walk 4 = .ok (.iload_n 2, 1) := by decide +kernel
theorem dX2_walk_5 : decode cX2_walk 5 = .ok (.bipush (-64), 2) := by decide +kernel
theorem dX2_walk_7 : decode cX2_walk 7 = .ok (.if_icmp .lt 20, 3) := by decide +kernel
theorem dX2_walk_10 : decode cX2_walk 10 = .ok (.iload_n 2, 1) := by decide +kernel
theorem dX2_walk_11 : decode cX2_walk 11 = .ok (.bipush 64, 2) := by decide +kernel
theorem dX2_walk_13 : decode cX2_walk 13 = .ok (.if_icmp .gt 14, 3) := by decide +kernel
theorem dX2_walk_16 : decode cX2_walk 16 = .ok (.iload_n 3, 1) := by decide +kernel
theorem dX2_walk_17 : decode cX2_walk 17 = .ok (.iconst 1, 1) := by decide +kernel
theorem dX2_walk_18 : decode cX2_walk 18 = .ok (.if_icmp .lt 9, 3) := by decide +kernel
theorem dX2_walk_21 : decode cX2_walk 21 = .ok (.iload_n 3, 1) := by decide +kernel
theorem dX2_walk_22 : decode cX2_walk 22 = .ok (.bipush 100, 2) := by decide +kernel
theorem dX2_walk_24 : decode cX2_walk 24 = .ok (.if_icmp .le 13, 3) := by decide +kernel
theorem dX2_walk_27 : decode cX2_walk 27 = .ok (.new 54, 3) := by decide +kernel
theorem dX2_walk_30 : decode cX2_walk 30 = .ok (.dup, 1) := by decide +kernel
theorem dX2_walk_31 : decode cX2_walk 31 = .ok (.ldc 56, 2) := by decide +kernel
theorem dX2_walk_33 : decode cX2_walk 33 = .ok (.invokespecial 58, 3) := by decide +kernel
theorem dX2_walk_36 : decode cX2_walk 36 = .ok (.athrow, 1) := by decide +kernel
theorem dX2_walk_37 : decode cX2_walk 37 = .ok (.aload_n 0, 1) := by decide +kernel
theorem dX2_walk_38 : decode cX2_walk 38 = .ok (.getfield 21, 3) := by decide +kernel
theorem dX2_walk_41 : decode cX2_walk 41 = .ok (.getfield 61, 3) := by decide +kernel
theorem dX2_walk_44 : decode cX2_walk 44 = .ok (.istore 4, 2) := by decide +kernel
theorem dX2_walk_46 : decode cX2_walk 46 = .ok (.iload_n 1, 1) := by decide +kernel
theorem dX2_walk_47 : decode cX2_walk 47 = .ok (.istore 5, 2) := by decide +kernel
theorem dX2_walk_49 : decode cX2_walk 49 = .ok (.iconst 0, 1) := by decide +kernel
theorem dX2_walk_50 : decode cX2_walk 50 = .ok (.istore 6, 2) := by decide +kernel
theorem dX2_walk_52 : decode cX2_walk 52 = .ok (.iload 6, 2) := by decide +kernel
theorem dX2_walk_54 : decode cX2_walk 54 = .ok (.iload_n 3, 1) := by decide +kernel
theorem dX2_walk_55 : decode cX2_walk 55 = .ok (.if_icmp .ge 31, 3) := by decide +kernel
theorem dX2_walk_58 : decode cX2_walk 58 = .ok (.aload_n 0, 1) := by decide +kernel
theorem dX2_walk_59 : decode cX2_walk 59 = .ok (.iload 5, 2) := by decide +kernel
theorem dX2_walk_61 : decode cX2_walk 61 = .ok (.invokestatic 39, 3) := by decide +kernel
theorem dX2_walk_64 : decode cX2_walk 64 = .ok (.iconst 0, 1) := by decide +kernel
theorem dX2_walk_65 : decode cX2_walk 65 = .ok (.invokevirtual 43, 3) := by decide +kernel
theorem dX2_walk_68 : decode cX2_walk 68 = .ok (.iload 5, 2) := by decide +kernel
theorem dX2_walk_70 : decode cX2_walk 70 = .ok (.iload_n 2, 1) := by decide +kernel
theorem dX2_walk_71 : decode cX2_walk 71 = .ok (.iadd, 1) := by decide +kernel
theorem dX2_walk_72 : decode cX2_walk 72 = .ok (.sipush 1024, 3) := by decide +kernel
theorem dX2_walk_75 : decode cX2_walk 75 = .ok (.invokestatic 65, 3) := by decide +kernel
theorem dX2_walk_78 : decode cX2_walk 78 = .ok (.istore 5, 2) := by decide +kernel
theorem dX2_walk_80 : decode cX2_walk 80 = .ok (.iinc 6 1, 3) := by decide +kernel
theorem dX2_walk_83 : decode cX2_walk 83 = .ok (.goto (-31), 3) := by decide +kernel
theorem dX2_walk_86 : decode cX2_walk 86 = .ok (.aload_n 0, 1) := by decide +kernel
theorem dX2_walk_87 : decode cX2_walk 87 = .ok (.getfield 21, 3) := by decide +kernel
theorem dX2_walk_90 : decode cX2_walk 90 = .ok (.getfield 61, 3) := by decide +kernel
theorem dX2_walk_93 : decode cX2_walk 93 = .ok (.iload 4, 2) := by decide +kernel
theorem dX2_walk_95 : decode cX2_walk 95 = .ok (.isub, 1) := by decide +kernel
theorem dX2_walk_96 : decode cX2_walk 96 = .ok (.ireturn, 1) := by decide +kernel
set_option maxRecDepth 20000 in
theorem ggX2_bringHome_X0_bringAllHome : GoodIn wsX2_bringHome wsX0_bringAllHome := goodIn_r _ [6, 7, 8, 9, 10, 11, 12, 13, 14, 5, 15, 16, 17, 23, 24, 25, 26, 27, 28, 29, 30, 31, 32, 33] (by decide +kernel) (by decide +kernel)
set_option maxRecDepth 20000 in
theorem gX2_bringHome_X0_bringAllHome : GoodIn wsX2_bringHome (wsV RX2 71 RX0 yX0_bringAllHome wsX0_bringAllHome) := goodIn_app (goodIn_of _ (by decide +kernel)) ggX2_bringHome_X0_bringAllHome
theorem dX2_bringHome_0 : decode cX2_bringHome 0 = .ok (.aload_n 0, 1) := by decide +kernel
theorem dX2_bringHome_1 : decode cX2_bringHome 1 = .ok (.getfield 21, 3) := by decide +kernel
theorem dX2_bringHome_4 : decode cX2_bringHome 4 = .ok (.invokevirtual 71, 3) := by decide +kernel
theorem dX2_bringHome_7 : decode cX2_bringHome 7 = .ok (.ireturn, 1) := by decide +kernel
set_option maxRecDepth 20000 in
theorem ggX2_build_X2_requireSize : GoodIn wsX2_build wsX2_requireSize := goodIn_ca (goodIn_r _ [5, 6, 7] (by decide +kernel) (by decide +kernel)) (goodIn_sub (fun _ h => List.mem_cons_of_mem _ (List.mem_append_right _ h)) (by decide +kernel))
set_option maxRecDepth 20000 in
theorem gX2_build_X2_requireSize : GoodIn wsX2_build (va_wsS RX2 75 yX2_requireSize wsX2_requireSize) := goodIn_app (goodIn_of _ (by decide +kernel)) ggX2_build_X2_requireSize
set_option maxRecDepth 20000 in
theorem ggX2_build_X0_countLines : GoodIn wsX2_build wsX0_countLines := goodIn_r _ [12, 13, 14, 15, 42, 43, 44, 45, 46, 47, 48, 49, 50, 51, 52] (by decide +kernel) (by decide +kernel)
set_option maxRecDepth 20000 in
theorem gX2_build_X0_countLines : GoodIn wsX2_build (wsV RX2 78 RX0 yX0_countLines wsX0_countLines) := goodIn_app (goodIn_of _ (by decide +kernel)) ggX2_build_X0_countLines
set_option maxRecDepth 20000 in
theorem ggX2_build_X0_bringAllHome : GoodIn wsX2_build wsX0_bringAllHome := goodIn_r _ [19, 20, 14, 15, 13, 21, 22, 23, 24, 11, 25, 26, 27, 42, 43, 44, 45, 46, 47, 48, 49, 50, 51, 52] (by decide +kernel) (by decide +kernel)
set_option maxRecDepth 20000 in
theorem gX2_build_X0_bringAllHome : GoodIn wsX2_build (wsV RX2 71 RX0 yX0_bringAllHome wsX0_bringAllHome) := goodIn_app (goodIn_of _ (by decide +kernel)) ggX2_build_X0_bringAllHome
set_option maxRecDepth 20000 in
theorem ggX2_build_X0_startEmpty : GoodIn wsX2_build wsX0_startEmpty := goodIn_r _ [31, 14, 32, 15, 13, 26, 33, 34, 35, 36, 42, 43, 44, 45, 46, 47, 48, 49, 50, 51, 52] (by decide +kernel) (by decide +kernel)
set_option maxRecDepth 20000 in
theorem gX2_build_X0_startEmpty : GoodIn wsX2_build (wsV RX2 81 RX0 yX0_startEmpty wsX0_startEmpty) := goodIn_app (goodIn_of _ (by decide +kernel)) ggX2_build_X0_startEmpty
theorem dX2_build_0 : decode cX2_build 0 = .ok (.iload_n 1, 1) := by decide +kernel
theorem dX2_build_1 : decode cX2_build 1 = .ok (.iload_n 2, 1) := by decide +kernel
theorem dX2_build_2 : decode cX2_build 2 = .ok (.invokestatic 75, 3) := by decide +kernel
theorem dX2_build_5 : decode cX2_build 5 = .ok (.aload_n 0, 1) := by decide +kernel
theorem dX2_build_6 : decode cX2_build 6 = .ok (.getfield 21, 3) := by decide +kernel
theorem dX2_build_9 : decode cX2_build 9 = .ok (.invokevirtual 78, 3) := by decide +kernel
theorem dX2_build_12 : decode cX2_build 12 = .ok (.istore_n 3, 1) := by decide +kernel
theorem dX2_build_13 : decode cX2_build 13 = .ok (.aload_n 0, 1) := by decide +kernel
theorem dX2_build_14 : decode cX2_build 14 = .ok (.getfield 21, 3) := by decide +kernel
theorem dX2_build_17 : decode cX2_build 17 = .ok (.invokevirtual 71, 3) := by decide +kernel
theorem dX2_build_20 : decode cX2_build 20 = .ok (.pop, 1) := by decide +kernel
theorem dX2_build_21 : decode cX2_build 21 = .ok (.aload_n 0, 1) := by decide +kernel
theorem dX2_build_22 : decode cX2_build 22 = .ok (.getfield 21, 3) := by decide +kernel
theorem dX2_build_25 : decode cX2_build 25 = .ok (.iload_n 1, 1) := by decide +kernel
theorem dX2_build_26 : decode cX2_build 26 = .ok (.iload_n 2, 1) := by decide +kernel
theorem dX2_build_27 : decode cX2_build 27 = .ok (.invokevirtual 81, 3) := by decide +kernel
theorem dX2_build_30 : decode cX2_build 30 = .ok (.iload_n 3, 1) := by decide +kernel
theorem dX2_build_31 : decode cX2_build 31 = .ok (.ireturn, 1) := by decide +kernel
set_option maxRecDepth 20000 in
theorem ggX2_cast_X2_requireSet : GoodIn wsX2_cast wsX2_requireSet := goodIn_ca (goodIn_r _ [9, 10, 11, 3, 12, 33, 34, 35, 36, 37, 38, 39, 40, 41, 42, 43, 44, 45, 46, 47, 48] (by decide +kernel) (by decide +kernel)) (goodIn_sub (fun _ h => List.mem_cons_of_mem _ (List.mem_append_right _ h)) (by decide +kernel))
set_option maxRecDepth 20000 in
theorem gX2_cast_X2_requireSet : GoodIn wsX2_cast (wsV RX2 84 RX2 yX2_requireSet wsX2_requireSet) := goodIn_app (goodIn_of _ (by decide +kernel)) ggX2_cast_X2_requireSet
set_option maxRecDepth 20000 in
theorem ggX2_cast_X0_throwOut : GoodIn wsX2_cast wsX0_throwOut := goodIn_r _ [17, 18, 19, 20, 21, 22, 23, 24, 16, 25, 26, 27, 28, 29, 30, 31, 32, 38, 39, 40, 41, 42, 43, 44, 45, 46, 47, 48] (by decide +kernel) (by decide +kernel)
set_option maxRecDepth 20000 in
theorem gX2_cast_X0_throwOut : GoodIn wsX2_cast (wsV RX2 95 RX0 yX0_throwOut wsX0_throwOut) := goodIn_app (goodIn_of _ (by decide +kernel)) ggX2_cast_X0_throwOut
theorem dX2_cast_0 : decode cX2_cast 0 = .ok (.aload_n 0, 1) := by decide +kernel
theorem dX2_cast_1 : decode cX2_cast 1 = .ok (.iload_n 1, 1) := by decide +kernel
theorem dX2_cast_2 : decode cX2_cast 2 = .ok (.invokevirtual 84, 3) := by decide +kernel
theorem dX2_cast_5 : decode cX2_cast 5 = .ok (.aload_n 0, 1) := by decide +kernel
theorem dX2_cast_6 : decode cX2_cast 6 = .ok (.getfield 21, 3) := by decide +kernel
theorem dX2_cast_9 : decode cX2_cast 9 = .ok (.getfield 87, 3) := by decide +kernel
theorem dX2_cast_12 : decode cX2_cast 12 = .ok (.iload_n 1, 1) := by decide +kernel
theorem dX2_cast_13 : decode cX2_cast 13 = .ok (.iaload, 1) := by decide +kernel
theorem dX2_cast_14 : decode cX2_cast 14 = .ok (.istore_n 2, 1) := by decide +kernel
theorem dX2_cast_15 : decode cX2_cast 15 = .ok (.iload_n 2, 1) := by decide +kernel
theorem dX2_cast_16 : decode cX2_cast 16 = .ok (.iconst (-1), 1) := by decide +kernel
theorem dX2_cast_17 : decode cX2_cast 17 = .ok (.if_icmp .ne 13, 3) := by decide +kernel
theorem dX2_cast_20 : decode cX2_cast 20 = .ok (.new 90, 3) := by decide +kernel
theorem dX2_cast_23 : decode cX2_cast 23 = .ok (.dup, 1) := by decide +kernel
theorem dX2_cast_24 : decode cX2_cast 24 = .ok (.ldc 92, 2) := by decide +kernel
theorem dX2_cast_26 : decode cX2_cast 26 = .ok (.invokespecial 94, 3) := by decide +kernel
theorem dX2_cast_29 : decode cX2_cast 29 = .ok (.athrow, 1) := by decide +kernel
theorem dX2_cast_30 : decode cX2_cast 30 = .ok (.aload_n 0, 1) := by decide +kernel
theorem dX2_cast_31 : decode cX2_cast 31 = .ok (.getfield 21, 3) := by decide +kernel
theorem dX2_cast_34 : decode cX2_cast 34 = .ok (.iload_n 1, 1) := by decide +kernel
theorem dX2_cast_35 : decode cX2_cast 35 = .ok (.invokevirtual 95, 3) := by decide +kernel
theorem dX2_cast_38 : decode cX2_cast 38 = .ok (.iload_n 2, 1) := by decide +kernel
theorem dX2_cast_39 : decode cX2_cast 39 = .ok (.ireturn, 1) := by decide +kernel
theorem dX2_sets_0 : decode cX2_sets 0 = .ok (.aload_n 0, 1) := by decide +kernel
theorem dX2_sets_1 : decode cX2_sets 1 = .ok (.getfield 21, 3) := by decide +kernel
theorem dX2_sets_4 : decode cX2_sets 4 = .ok (.getfield 98, 3) := by decide +kernel
theorem dX2_sets_7 : decode cX2_sets 7 = .ok (.ireturn, 1) := by decide +kernel
theorem dX2_places_0 : decode cX2_places 0 = .ok (.aload_n 0, 1) := by decide +kernel
theorem dX2_places_1 : decode cX2_places 1 = .ok (.getfield 21, 3) := by decide +kernel
theorem dX2_places_4 : decode cX2_places 4 = .ok (.getfield 101, 3) := by decide +kernel
theorem dX2_places_7 : decode cX2_places 7 = .ok (.ireturn, 1) := by decide +kernel
set_option maxRecDepth 20000 in
theorem ggX2_lineIn_X2_requireSet : GoodIn wsX2_lineIn wsX2_requireSet := goodIn_ca (goodIn_r _ [7, 8, 9, 1, 10, 11, 12, 13, 14, 15, 16, 17, 18, 19, 20, 21, 22, 23, 24, 25, 26] (by decide +kernel) (by decide +kernel)) (goodIn_sub (fun _ h => List.mem_cons_of_mem _ (List.mem_append_right _ h)) (by decide +kernel))
set_option maxRecDepth 20000 in
theorem gX2_lineIn_X2_requireSet : GoodIn wsX2_lineIn (wsV RX2 84 RX2 yX2_requireSet wsX2_requireSet) := goodIn_app (goodIn_of _ (by decide +kernel)) ggX2_lineIn_X2_requireSet
theorem dX2_lineIn_0 : decode cX2_lineIn 0 = .ok (.aload_n 0, 1) := by decide +kernel
theorem dX2_lineIn_1 : decode cX2_lineIn 1 = .ok (.iload_n 1, 1) := by decide +kernel
theorem dX2_lineIn_2 : decode cX2_lineIn 2 = .ok (.invokevirtual 84, 3) := by decide +kernel
theorem dX2_lineIn_5 : decode cX2_lineIn 5 = .ok (.aload_n 0, 1) := by decide +kernel
theorem dX2_lineIn_6 : decode cX2_lineIn 6 = .ok (.getfield 21, 3) := by decide +kernel
theorem dX2_lineIn_9 : decode cX2_lineIn 9 = .ok (.getfield 87, 3) := by decide +kernel
theorem dX2_lineIn_12 : decode cX2_lineIn 12 = .ok (.iload_n 1, 1) := by decide +kernel
theorem dX2_lineIn_13 : decode cX2_lineIn 13 = .ok (.iaload, 1) := by decide +kernel
theorem dX2_lineIn_14 : decode cX2_lineIn 14 = .ok (.ireturn, 1) := by decide +kernel
theorem dX2_sitting_0 : decode cX2_sitting 0 = .ok (.aload_n 0, 1) := by decide +kernel
theorem dX2_sitting_1 : decode cX2_sitting 1 = .ok (.getfield 21, 3) := by decide +kernel
theorem dX2_sitting_4 : decode cX2_sitting 4 = .ok (.getfield 104, 3) := by decide +kernel
theorem dX2_sitting_7 : decode cX2_sitting 7 = .ok (.ireturn, 1) := by decide +kernel
theorem dX2_lineOnBench_0 : decode cX2_lineOnBench 0 = .ok (.iload_n 1, 1) := by decide +kernel
theorem dX2_lineOnBench_1 : decode cX2_lineOnBench 1 = .ok (.ifCond .lt 14, 3) := by decide +kernel
theorem dX2_lineOnBench_4 : decode cX2_lineOnBench 4 = .ok (.iload_n 1, 1) := by decide +kernel
theorem dX2_lineOnBench_5 : decode cX2_lineOnBench 5 = .ok (.aload_n 0, 1) := by decide +kernel
theorem dX2_lineOnBench_6 : decode cX2_lineOnBench 6 = .ok (.getfield 21, 3) := by decide +kernel
theorem dX2_lineOnBench_9 : decode cX2_lineOnBench 9 = .ok (.getfield 104, 3) := by decide +kernel
theorem dX2_lineOnBench_12 : decode cX2_lineOnBench 12 = .ok (.if_icmp .lt 13, 3) := by decide +kernel
theorem dX2_lineOnBench_15 : decode cX2_lineOnBench 15 = .ok (.new 107, 3) := by decide +kernel
theorem dX2_lineOnBench_18 : decode cX2_lineOnBench 18 = .ok (.dup, 1) := by decide +kernel
theorem dX2_lineOnBench_19 : decode cX2_lineOnBench 19 = .ok (.ldc 109, 2) := by decide +kernel
theorem dX2_lineOnBench_21 : decode cX2_lineOnBench 21 = .ok (.invokespecial 111, 3) := by decide +kernel
theorem dX2_lineOnBench_24 : decode cX2_lineOnBench 24 = .ok (.athrow, 1) := by decide +kernel
theorem dX2_lineOnBench_25 : decode cX2_lineOnBench 25 = .ok (.aload_n 0, 1) := by decide +kernel
theorem dX2_lineOnBench_26 : decode cX2_lineOnBench 26 = .ok (.getfield 21, 3) := by decide +kernel
theorem dX2_lineOnBench_29 : decode cX2_lineOnBench 29 = .ok (.getfield 112, 3) := by decide +kernel
theorem dX2_lineOnBench_32 : decode cX2_lineOnBench 32 = .ok (.aload_n 0, 1) := by decide +kernel
theorem dX2_lineOnBench_33 : decode cX2_lineOnBench 33 = .ok (.getfield 21, 3) := by decide +kernel
theorem dX2_lineOnBench_36 : decode cX2_lineOnBench 36 = .ok (.getfield 104, 3) := by decide +kernel
theorem dX2_lineOnBench_39 : decode cX2_lineOnBench 39 = .ok (.iconst 1, 1) := by decide +kernel
theorem dX2_lineOnBench_40 : decode cX2_lineOnBench 40 = .ok (.isub, 1) := by decide +kernel
theorem dX2_lineOnBench_41 : decode cX2_lineOnBench 41 = .ok (.iload_n 1, 1) := by decide +kernel
theorem dX2_lineOnBench_42 : decode cX2_lineOnBench 42 = .ok (.isub, 1) := by decide +kernel
theorem dX2_lineOnBench_43 : decode cX2_lineOnBench 43 = .ok (.iaload, 1) := by decide +kernel
theorem dX2_lineOnBench_44 : decode cX2_lineOnBench 44 = .ok (.ireturn, 1) := by decide +kernel
set_option maxRecDepth 20000 in
theorem ggX2_placeOf_X2_requireLine : GoodIn wsX2_placeOf wsX2_requireLine := goodIn_ca (goodIn_r _ [5, 6, 7] (by decide +kernel) (by decide +kernel)) (goodIn_sub (fun _ h => List.mem_cons_of_mem _ (List.mem_append_right _ h)) (by decide +kernel))
set_option maxRecDepth 20000 in
theorem gX2_placeOf_X2_requireLine : GoodIn wsX2_placeOf (va_wsS RX2 115 yX2_requireLine wsX2_requireLine) := goodIn_app (goodIn_of _ (by decide +kernel)) ggX2_placeOf_X2_requireLine
set_option maxRecDepth 20000 in
theorem ggX2_placeOf_X0_whereIs : GoodIn wsX2_placeOf wsX0_whereIs := goodIn_r _ [12, 13, 14, 15, 16, 11, 17, 18, 19, 20, 21, 22, 23, 24, 30, 31, 32, 33, 34, 35, 36, 37, 38, 39, 40] (by decide +kernel) (by decide +kernel)
set_option maxRecDepth 20000 in
theorem gX2_placeOf_X0_whereIs : GoodIn wsX2_placeOf (wsV RX2 118 RX0 yX0_whereIs wsX0_whereIs) := goodIn_app (goodIn_of _ (by decide +kernel)) ggX2_placeOf_X0_whereIs
theorem dX2_placeOf_0 : decode cX2_placeOf 0 = .ok (.iload_n 1, 1) := by decide +kernel
theorem dX2_placeOf_1 : decode cX2_placeOf 1 = .ok (.invokestatic 115, 3) := by decide +kernel
theorem dX2_placeOf_4 : decode cX2_placeOf 4 = .ok (.aload_n 0, 1) := by decide +kernel
theorem dX2_placeOf_5 : decode cX2_placeOf 5 = .ok (.getfield 21, 3) := by decide +kernel
theorem dX2_placeOf_8 : decode cX2_placeOf 8 = .ok (.iload_n 1, 1) := by decide +kernel
theorem dX2_placeOf_9 : decode cX2_placeOf 9 = .ok (.invokevirtual 118, 3) := by decide +kernel
theorem dX2_placeOf_12 : decode cX2_placeOf 12 = .ok (.ireturn, 1) := by decide +kernel
set_option maxRecDepth 20000 in
theorem ggX2_isDirty_X2_requireLine : GoodIn wsX2_isDirty wsX2_requireLine := goodIn_ca (goodIn_r _ [6, 7, 8] (by decide +kernel) (by decide +kernel)) (goodIn_sub (fun _ h => List.mem_cons_of_mem _ (List.mem_append_right _ h)) (by decide +kernel))
set_option maxRecDepth 20000 in
theorem gX2_isDirty_X2_requireLine : GoodIn wsX2_isDirty (va_wsS RX2 115 yX2_requireLine wsX2_requireLine) := goodIn_app (goodIn_of _ (by decide +kernel)) ggX2_isDirty_X2_requireLine
theorem dX2_isDirty_0 : decode cX2_isDirty 0 = .ok (.iload_n 1, 1) := by decide +kernel
theorem dX2_isDirty_1 : decode cX2_isDirty 1 = .ok (.invokestatic 115, 3) := by decide +kernel
theorem dX2_isDirty_4 : decode cX2_isDirty 4 = .ok (.aload_n 0, 1) := by decide +kernel
theorem dX2_isDirty_5 : decode cX2_isDirty 5 = .ok (.getfield 21, 3) := by decide +kernel
theorem dX2_isDirty_8 : decode cX2_isDirty 8 = .ok (.getfield 47, 3) := by decide +kernel
theorem dX2_isDirty_11 : decode cX2_isDirty 11 = .ok (.iload_n 1, 1) := by decide +kernel
theorem dX2_isDirty_12 : decode cX2_isDirty 12 = .ok (.baload, 1) := by decide +kernel
theorem dX2_isDirty_13 : decode cX2_isDirty 13 = .ok (.ireturn, 1) := by decide +kernel
set_option maxRecDepth 20000 in
theorem ggX2_dirty_X0_countDirty : GoodIn wsX2_dirty wsX0_countDirty := goodIn_r _ [6, 7, 13, 14, 15, 16, 17, 18, 19, 20, 21, 22, 23] (by decide +kernel) (by decide +kernel)
set_option maxRecDepth 20000 in
theorem gX2_dirty_X0_countDirty : GoodIn wsX2_dirty (wsV RX2 121 RX0 yX0_countDirty wsX0_countDirty) := goodIn_app (goodIn_of _ (by decide +kernel)) ggX2_dirty_X0_countDirty
theorem dX2_dirty_0 : decode cX2_dirty 0 = .ok (.aload_n 0, 1) := by decide +kernel
theorem dX2_dirty_1 : decode cX2_dirty 1 = .ok (.getfield 21, 3) := by decide +kernel
theorem dX2_dirty_4 : decode cX2_dirty 4 = .ok (.invokevirtual 121, 3) := by decide +kernel
theorem dX2_dirty_7 : decode cX2_dirty 7 = .ok (.ireturn, 1) := by decide +kernel
set_option maxRecDepth 20000 in
theorem ggX2_atHome_X2_requireWord : GoodIn wsX2_atHome wsX2_requireWord := goodIn_ca (goodIn_r _ [8, 9, 10] (by decide +kernel) (by decide +kernel)) (goodIn_sub (fun _ h => List.mem_cons_of_mem _ (List.mem_append_right _ h)) (by decide +kernel))
set_option maxRecDepth 20000 in
theorem gX2_atHome_X2_requireWord : GoodIn wsX2_atHome (va_wsS RX2 35 yX2_requireWord wsX2_requireWord) := goodIn_app (goodIn_of _ (by decide +kernel)) ggX2_atHome_X2_requireWord
set_option maxRecDepth 20000 in
theorem ggX2_atHome_X2_lineOf : GoodIn wsX2_atHome wsX2_lineOf := goodIn_r _ [13] (by decide +kernel) (by decide +kernel)
set_option maxRecDepth 20000 in
theorem gX2_atHome_X2_lineOf : GoodIn wsX2_atHome (va_wsS RX2 39 yX2_lineOf wsX2_lineOf) := goodIn_app (goodIn_of _ (by decide +kernel)) ggX2_atHome_X2_lineOf
theorem dX2_atHome_0 : decode cX2_atHome 0 = .ok (.iload_n 1, 1) := by decide +kernel
theorem dX2_atHome_1 : decode cX2_atHome 1 = .ok (.invokestatic 35, 3) := by decide +kernel
theorem dX2_atHome_4 : decode cX2_atHome 4 = .ok (.aload_n 0, 1) := by decide +kernel
theorem dX2_atHome_5 : decode cX2_atHome 5 = .ok (.getfield 21, 3) := by decide +kernel
theorem dX2_atHome_8 : decode cX2_atHome 8 = .ok (.getfield 47, 3) := by decide +kernel
theorem dX2_atHome_11 : decode cX2_atHome 11 = .ok (.iload_n 1, 1) := by decide +kernel
theorem dX2_atHome_12 : decode cX2_atHome 12 = .ok (.invokestatic 39, 3) := by decide +kernel
theorem dX2_atHome_15 : decode cX2_atHome 15 = .ok (.baload, 1) := by decide +kernel
theorem dX2_atHome_16 : decode cX2_atHome 16 = .ok (.ifCond .eq 12, 3) := by decide +kernel
theorem dX2_atHome_19 : decode cX2_atHome 19 = .ok (.aload_n 0, 1) := by decide +kernel
theorem dX2_atHome_20 : decode cX2_atHome 20 = .ok (.getfield 13, 3) := by decide +kernel
theorem dX2_atHome_23 : decode cX2_atHome 23 = .ok (.iload_n 1, 1) := by decide +kernel
theorem dX2_atHome_24 : decode cX2_atHome 24 = .ok (.iaload, 1) := by decide +kernel
theorem dX2_atHome_25 : decode cX2_atHome 25 = .ok (.goto 9, 3) := by decide +kernel
theorem dX2_atHome_28 : decode cX2_atHome 28 = .ok (.aload_n 0, 1) := by decide +kernel
theorem dX2_atHome_29 : decode cX2_atHome 29 = .ok (.getfield 9, 3) := by decide +kernel
theorem dX2_atHome_32 : decode cX2_atHome 32 = .ok (.iload_n 1, 1) := by decide +kernel
theorem dX2_atHome_33 : decode cX2_atHome 33 = .ok (.iaload, 1) := by decide +kernel
theorem dX2_atHome_34 : decode cX2_atHome 34 = .ok (.ireturn, 1) := by decide +kernel
set_option maxRecDepth 20000 in
theorem ggX2_peek_X2_requireWord : GoodIn wsX2_peek wsX2_requireWord := goodIn_ca (goodIn_r _ [5, 6, 7] (by decide +kernel) (by decide +kernel)) (goodIn_sub (fun _ h => List.mem_cons_of_mem _ (List.mem_append_right _ h)) (by decide +kernel))
set_option maxRecDepth 20000 in
theorem gX2_peek_X2_requireWord : GoodIn wsX2_peek (va_wsS RX2 35 yX2_requireWord wsX2_requireWord) := goodIn_app (goodIn_of _ (by decide +kernel)) ggX2_peek_X2_requireWord
theorem dX2_peek_0 : decode cX2_peek 0 = .ok (.iload_n 1, 1) := by decide +kernel
theorem dX2_peek_1 : decode cX2_peek 1 = .ok (.invokestatic 35, 3) := by decide +kernel
theorem dX2_peek_4 : decode cX2_peek 4 = .ok (.aload_n 0, 1) := by decide +kernel
theorem dX2_peek_5 : decode cX2_peek 5 = .ok (.getfield 9, 3) := by decide +kernel
theorem dX2_peek_8 : decode cX2_peek 8 = .ok (.iload_n 1, 1) := by decide +kernel
theorem dX2_peek_9 : decode cX2_peek 9 = .ok (.iaload, 1) := by decide +kernel
theorem dX2_peek_10 : decode cX2_peek 10 = .ok (.ireturn, 1) := by decide +kernel
theorem dX2_hits_0 : decode cX2_hits 0 = .ok (.aload_n 0, 1) := by decide +kernel
theorem dX2_hits_1 : decode cX2_hits 1 = .ok (.getfield 21, 3) := by decide +kernel
theorem dX2_hits_4 : decode cX2_hits 4 = .ok (.getfield 124, 3) := by decide +kernel
theorem dX2_hits_7 : decode cX2_hits 7 = .ok (.ireturn, 1) := by decide +kernel
theorem dX2_swaps_0 : decode cX2_swaps 0 = .ok (.aload_n 0, 1) := by decide +kernel
theorem dX2_swaps_1 : decode cX2_swaps 1 = .ok (.getfield 21, 3) := by decide +kernel
theorem dX2_swaps_4 : decode cX2_swaps 4 = .ok (.getfield 127, 3) := by decide +kernel
theorem dX2_swaps_7 : decode cX2_swaps 7 = .ok (.ireturn, 1) := by decide +kernel
theorem dX2_misses_0 : decode cX2_misses 0 = .ok (.aload_n 0, 1) := by decide +kernel
theorem dX2_misses_1 : decode cX2_misses 1 = .ok (.getfield 21, 3) := by decide +kernel
theorem dX2_misses_4 : decode cX2_misses 4 = .ok (.getfield 130, 3) := by decide +kernel
theorem dX2_misses_7 : decode cX2_misses 7 = .ok (.ireturn, 1) := by decide +kernel
theorem dX2_homecomings_0 : decode cX2_homecomings 0 = .ok (.aload_n 0, 1) := by decide +kernel
theorem dX2_homecomings_1 : decode cX2_homecomings 1 = .ok (.getfield 21, 3) := by decide +kernel
theorem dX2_homecomings_4 : decode cX2_homecomings 4 = .ok (.getfield 133, 3) := by decide +kernel
theorem dX2_homecomings_7 : decode cX2_homecomings 7 = .ok (.ireturn, 1) := by decide +kernel
theorem dX2_cost_0 : decode cX2_cost 0 = .ok (.aload_n 0, 1) := by decide +kernel
theorem dX2_cost_1 : decode cX2_cost 1 = .ok (.getfield 21, 3) := by decide +kernel
theorem dX2_cost_4 : decode cX2_cost 4 = .ok (.getfield 61, 3) := by decide +kernel
theorem dX2_cost_7 : decode cX2_cost 7 = .ok (.ireturn, 1) := by decide +kernel
set_option maxRecDepth 20000 in
theorem ggX2_wouldCost_X2_requireSize : GoodIn wsX2_wouldCost wsX2_requireSize := goodIn_ca (goodIn_r _ [4, 5, 6] (by decide +kernel) (by decide +kernel)) (goodIn_sub (fun _ h => List.mem_cons_of_mem _ (List.mem_append_right _ h)) (by decide +kernel))
set_option maxRecDepth 20000 in
theorem gX2_wouldCost_X2_requireSize : GoodIn wsX2_wouldCost (va_wsS RX2 75 yX2_requireSize wsX2_requireSize) := goodIn_app (goodIn_of _ (by decide +kernel)) ggX2_wouldCost_X2_requireSize
set_option maxRecDepth 20000 in
theorem ggX2_wouldCost_X2_costOfTrial : GoodIn wsX2_wouldCost wsX2_costOfTrial := goodIn_r _ [10, 11, 12, 13, 14, 15, 16, 17, 18, 19, 20, 21, 22, 23, 24, 25, 26, 27, 28, 29, 30, 31, 32, 33, 34, 35, 36, 37, 38, 39, 40, 41, 42, 43, 44, 45, 46, 47, 48, 49, 50, 51, 52, 53, 54, 55, 56, 57, 58, 59, 60, 61, 62, 63, 64, 65, 66, 67, 68, 69, 70, 71, 72, 73, 74, 75, 76, 77, 78, 79, 80, 81, 82, 83, 84, 85, 86, 87] (by decide +kernel) (by decide +kernel)
set_option maxRecDepth 20000 in
theorem gX2_wouldCost_X2_costOfTrial : GoodIn wsX2_wouldCost (wsV RX2 136 RX2 yX2_costOfTrial wsX2_costOfTrial) := goodIn_app (goodIn_of _ (by decide +kernel)) ggX2_wouldCost_X2_costOfTrial
theorem dX2_wouldCost_0 : decode cX2_wouldCost 0 = .ok (.iload_n 1, 1) := by decide +kernel
theorem dX2_wouldCost_1 : decode cX2_wouldCost 1 = .ok (.iload_n 2, 1) := by decide +kernel
theorem dX2_wouldCost_2 : decode cX2_wouldCost 2 = .ok (.invokestatic 75, 3) := by decide +kernel
theorem dX2_wouldCost_5 : decode cX2_wouldCost 5 = .ok (.aload_n 0, 1) := by decide +kernel
theorem dX2_wouldCost_6 : decode cX2_wouldCost 6 = .ok (.iload_n 1, 1) := by decide +kernel
theorem dX2_wouldCost_7 : decode cX2_wouldCost 7 = .ok (.iload_n 2, 1) := by decide +kernel
theorem dX2_wouldCost_8 : decode cX2_wouldCost 8 = .ok (.invokevirtual 136, 3) := by decide +kernel
theorem dX2_wouldCost_11 : decode cX2_wouldCost 11 = .ok (.ireturn, 1) := by decide +kernel
set_option maxRecDepth 20000 in
theorem ggX2_bestPlaces_X2_costOfTrial : GoodIn wsX2_bestPlaces wsX2_costOfTrial := goodIn_r _ [7, 8, 9, 10, 11, 12, 13, 14, 15, 16, 17, 18, 19, 20, 21, 22, 23, 24, 25, 26, 27, 28, 29, 30, 31, 32, 33, 34, 35, 36, 37, 38, 39, 40, 41, 42, 43, 44, 45, 46, 47, 48, 49, 50, 51, 52, 53, 54, 55, 56, 57, 58, 59, 60, 61, 62, 63, 64, 65, 66, 67, 68, 69, 70, 71, 72, 73, 74, 75, 76, 77, 78, 79, 80, 81, 82, 83, 84] (by decide +kernel) (by decide +kernel)
set_option maxRecDepth 20000 in
theorem gX2_bestPlaces_X2_costOfTrial : GoodIn wsX2_bestPlaces (wsV RX2 136 RX2 yX2_costOfTrial wsX2_costOfTrial) := goodIn_app (goodIn_of _ (by decide +kernel)) ggX2_bestPlaces_X2_costOfTrial
theorem dX2_bestPlaces_0 : decode cX2_bestPlaces 0 = .ok (.iconst 0, 1) := by decide +kernel
theorem dX2_bestPlaces_1 : decode cX2_bestPlaces 1 = .ok (.istore_n 1, 1) := by decide +kernel
theorem dX2_bestPlaces_2 : decode cX2_bestPlaces 2 = .ok (.aload_n 0, 1) := by decide +kernel
theorem dX2_bestPlaces_3 : decode cX2_bestPlaces 3 = .ok (.aload_n 0, 1) := by decide +kernel
theorem dX2_bestPlaces_4 : decode cX2_bestPlaces 4 = .ok (.getfield 21, 3) := by decide +kernel
theorem dX2_bestPlaces_7 : decode cX2_bestPlaces 7 = .ok (.getfield 98, 3) := by decide +kernel
theorem dX2_bestPlaces_10 : decode cX2_bestPlaces 10 = .ok (.iconst 0, 1) := by decide +kernel
theorem dX2_bestPlaces_11 : decode cX2_bestPlaces 11 = .ok (.invokevirtual 136, 3) := by decide +kernel
theorem dX2_bestPlaces_14 : decode cX2_bestPlaces 14 = .ok (.istore_n 2, 1) := by decide +kernel
theorem dX2_bestPlaces_15 : decode cX2_bestPlaces 15 = .ok (.iconst 1, 1) := by decide +kernel
theorem dX2_bestPlaces_16 : decode cX2_bestPlaces 16 = .ok (.istore_n 3, 1) := by decide +kernel
theorem dX2_bestPlaces_17 : decode cX2_bestPlaces 17 = .ok (.iload_n 3, 1) := by decide +kernel
theorem dX2_bestPlaces_18 : decode cX2_bestPlaces 18 = .ok (.bipush 8, 2) := by decide +kernel
theorem dX2_bestPlaces_20 : decode cX2_bestPlaces 20 = .ok (.if_icmp .gt 34, 3) := by decide +kernel
theorem dX2_bestPlaces_23 : decode cX2_bestPlaces 23 = .ok (.aload_n 0, 1) := by decide +kernel
theorem dX2_bestPlaces_24 : decode cX2_bestPlaces 24 = .ok (.aload_n 0, 1) := by decide +kernel
theorem dX2_bestPlaces_25 : decode cX2_bestPlaces 25 = .ok (.getfield 21, 3) := by decide +kernel
theorem dX2_bestPlaces_28 : decode cX2_bestPlaces 28 = .ok (.getfield 98, 3) := by decide +kernel
theorem dX2_bestPlaces_31 : decode cX2_bestPlaces 31 = .ok (.iload_n 3, 1) := by decide +kernel
theorem dX2_bestPlaces_32 : decode cX2_bestPlaces 32 = .ok (.invokevirtual 136, 3) := by decide +kernel
theorem dX2_bestPlaces_35 : decode cX2_bestPlaces 35 = .ok (.istore 4, 2) := by decide +kernel
theorem dX2_bestPlaces_37 : decode cX2_bestPlaces 37 = .ok (.iload 4, 2) := by decide +kernel
theorem dX2_bestPlaces_39 : decode cX2_bestPlaces 39 = .ok (.iload_n 2, 1) := by decide +kernel
theorem dX2_bestPlaces_40 : decode cX2_bestPlaces 40 = .ok (.if_icmp .ge 8, 3) := by decide +kernel
theorem dX2_bestPlaces_43 : decode cX2_bestPlaces 43 = .ok (.iload_n 3, 1) := by decide +kernel
theorem dX2_bestPlaces_44 : decode cX2_bestPlaces 44 = .ok (.istore_n 1, 1) := by decide +kernel
theorem dX2_bestPlaces_45 : decode cX2_bestPlaces 45 = .ok (.iload 4, 2) := by decide +kernel
theorem dX2_bestPlaces_47 : decode cX2_bestPlaces 47 = .ok (.istore_n 2, 1) := by decide +kernel
theorem dX2_bestPlaces_48 : decode cX2_bestPlaces 48 = .ok (.iinc 3 1, 3) := by decide +kernel
theorem dX2_bestPlaces_51 : decode cX2_bestPlaces 51 = .ok (.goto (-34), 3) := by decide +kernel
theorem dX2_bestPlaces_54 : decode cX2_bestPlaces 54 = .ok (.iload_n 1, 1) := by decide +kernel
theorem dX2_bestPlaces_55 : decode cX2_bestPlaces 55 = .ok (.ireturn, 1) := by decide +kernel
set_option maxRecDepth 20000 in
theorem ggX2_ask_X0_access : GoodIn wsX2_ask wsX0_access := goodIn_r _ [7, 8, 9, 10, 11, 12, 13, 14, 15, 16, 6, 17, 18, 19, 20, 21, 22, 23, 24, 25, 26, 27, 28, 29, 30, 31, 32, 33, 34, 35, 36, 37, 38, 53, 54, 55, 56, 57, 58, 59, 60, 61, 62, 63] (by decide +kernel) (by decide +kernel)
set_option maxRecDepth 20000 in
theorem gX2_ask_X0_access : GoodIn wsX2_ask (wsV RX2 139 RX0 yX0_access wsX0_access) := goodIn_app (goodIn_of _ (by decide +kernel)) ggX2_ask_X0_access
set_option maxRecDepth 20000 in
theorem ggX2_ask_X1_add : GoodIn wsX2_ask wsX1_add := goodIn_r _ [43, 44, 45, 46, 47, 64, 65, 66, 67] (by decide +kernel) (by decide +kernel)
set_option maxRecDepth 20000 in
theorem gX2_ask_X1_add : GoodIn wsX2_ask (wsV RX2 142 RX1 yX1_add wsX1_add) := goodIn_app (goodIn_of _ (by decide +kernel)) ggX2_ask_X1_add
theorem dX2_ask_0 : decode cX2_ask 0 = .ok (.aload_n 0, 1) := by decide +kernel
theorem dX2_ask_1 : decode cX2_ask 1 = .ok (.getfield 21, 3) := by decide +kernel
theorem dX2_ask_4 : decode cX2_ask 4 = .ok (.iload_n 1, 1) := by decide +kernel
theorem dX2_ask_5 : decode cX2_ask 5 = .ok (.iload_n 2, 1) := by decide +kernel
theorem dX2_ask_6 : decode cX2_ask 6 = .ok (.invokevirtual 139, 3) := by decide +kernel
theorem dX2_ask_9 : decode cX2_ask 9 = .ok (.aload_n 0, 1) := by decide +kernel
theorem dX2_ask_10 : decode cX2_ask 10 = .ok (.getfield 31, 3) := by decide +kernel
theorem dX2_ask_13 : decode cX2_ask 13 = .ok (.iload_n 1, 1) := by decide +kernel
theorem dX2_ask_14 : decode cX2_ask 14 = .ok (.iload_n 2, 1) := by decide +kernel
theorem dX2_ask_15 : decode cX2_ask 15 = .ok (.invokevirtual 142, 3) := by decide +kernel
theorem dX2_ask_18 : decode cX2_ask 18 = .ok (.return_, 1) := by decide +kernel
theorem dX2_keepHomeWords_0 : decode cX2_keepHomeWords 0 = .ok (.iload_n 1, 1) := by decide +kernel
theorem dX2_keepHomeWords_1 : decode cX2_keepHomeWords 1 = .ok (.iconst 4, 1) := by decide +kernel
theorem dX2_keepHomeWords_2 : decode cX2_keepHomeWords 2 = .ok (.imul, 1) := by decide +kernel
theorem dX2_keepHomeWords_3 : decode cX2_keepHomeWords 3 = .ok (.istore_n 2, 1) := by decide +kernel
theorem dX2_keepHomeWords_4 : decode cX2_keepHomeWords 4 = .ok (.aload_n 0, 1) := by decide +kernel
theorem dX2_keepHomeWords_5 : decode cX2_keepHomeWords 5 = .ok (.getfield 9, 3) := by decide +kernel
theorem dX2_keepHomeWords_8 : decode cX2_keepHomeWords 8 = .ok (.iload_n 2, 1) := by decide +kernel
theorem dX2_keepHomeWords_9 : decode cX2_keepHomeWords 9 = .ok (.aload_n 0, 1) := by decide +kernel
theorem dX2_keepHomeWords_10 : decode cX2_keepHomeWords 10 = .ok (.getfield 13, 3) := by decide +kernel
theorem dX2_keepHomeWords_13 : decode cX2_keepHomeWords 13 = .ok (.iload_n 2, 1) := by decide +kernel
theorem dX2_keepHomeWords_14 : decode cX2_keepHomeWords 14 = .ok (.iconst 4, 1) := by decide +kernel
theorem dX2_keepHomeWords_15 : decode cX2_keepHomeWords 15 = .ok (.invokestatic 145, 3) := by decide +kernel
theorem dX2_keepHomeWords_18 : decode cX2_keepHomeWords 18 = .ok (.return_, 1) := by decide +kernel
set_option maxRecDepth 20000 in
theorem ggX2_costOfTrial_X0_startEmpty : GoodIn wsX2_costOfTrial wsX0_startEmpty := goodIn_r _ [11, 12, 13, 14, 15, 16, 17, 18, 19, 20, 63, 64, 65, 66, 67, 68, 69, 70, 71, 72, 73] (by decide +kernel) (by decide +kernel)
set_option maxRecDepth 20000 in
theorem gX2_costOfTrial_X0_startEmpty : GoodIn wsX2_costOfTrial (wsV RX2 81 RX0 yX0_startEmpty wsX0_startEmpty) := goodIn_app (goodIn_of _ (by decide +kernel)) ggX2_costOfTrial_X0_startEmpty
set_option maxRecDepth 20000 in
theorem ggX2_costOfTrial_X1_slotOf : GoodIn wsX2_costOfTrial wsX1_slotOf := goodIn_r _ [25, 26, 27, 74, 75, 76, 77] (by decide +kernel) (by decide +kernel)
set_option maxRecDepth 20000 in
theorem gX2_costOfTrial_X1_slotOf : GoodIn wsX2_costOfTrial (wsV RX2 154 RX1 yX1_slotOf wsX1_slotOf) := goodIn_app (goodIn_of _ (by decide +kernel)) ggX2_costOfTrial_X1_slotOf
set_option maxRecDepth 20000 in
theorem ggX2_costOfTrial_X0_access : GoodIn wsX2_costOfTrial wsX0_access := goodIn_r _ [31, 14, 32, 33, 34, 35, 16, 36, 37, 38, 10, 39, 12, 40, 41, 42, 43, 15, 44, 45, 46, 47, 48, 49, 50, 51, 52, 13, 53, 54, 55, 56, 57, 63, 64, 65, 66, 67, 68, 69, 70, 71, 72, 73] (by decide +kernel) (by decide +kernel)
set_option maxRecDepth 20000 in
theorem gX2_costOfTrial_X0_access : GoodIn wsX2_costOfTrial (wsV RX2 139 RX0 yX0_access wsX0_access) := goodIn_app (goodIn_of _ (by decide +kernel)) ggX2_costOfTrial_X0_access
theorem dX2_costOfTrial_0 : decode cX2_costOfTrial 0 = .ok (.aload_n 0, 1) := by decide +kernel
theorem dX2_costOfTrial_1 : decode cX2_costOfTrial 1 = .ok (.getfield 25, 3) := by decide +kernel
theorem dX2_costOfTrial_4 : decode cX2_costOfTrial 4 = .ok (.iload_n 1, 1) := by decide +kernel
theorem dX2_costOfTrial_5 : decode cX2_costOfTrial 5 = .ok (.iload_n 2, 1) := by decide +kernel
theorem dX2_costOfTrial_6 : decode cX2_costOfTrial 6 = .ok (.invokevirtual 81, 3) := by decide +kernel
theorem dX2_costOfTrial_9 : decode cX2_costOfTrial 9 = .ok (.aload_n 0, 1) := by decide +kernel
theorem dX2_costOfTrial_10 : decode cX2_costOfTrial 10 = .ok (.getfield 25, 3) := by decide +kernel
theorem dX2_costOfTrial_13 : decode cX2_costOfTrial 13 = .ok (.getfield 61, 3) := by decide +kernel
theorem dX2_costOfTrial_16 : decode cX2_costOfTrial 16 = .ok (.istore_n 3, 1) := by decide +kernel
theorem dX2_costOfTrial_17 : decode cX2_costOfTrial 17 = .ok (.iconst 0, 1) := by decide +kernel
theorem dX2_costOfTrial_18 : decode cX2_costOfTrial 18 = .ok (.istore 4, 2) := by decide +kernel
theorem dX2_costOfTrial_20 : decode cX2_costOfTrial 20 = .ok (.iload 4, 2) := by decide +kernel
theorem dX2_costOfTrial_22 : decode cX2_costOfTrial 22 = .ok (.aload_n 0, 1) := by decide +kernel
theorem dX2_costOfTrial_23 : decode cX2_costOfTrial 23 = .ok (.getfield 31, 3) := by decide +kernel
theorem dX2_costOfTrial_26 : decode cX2_costOfTrial 26 = .ok (.getfield 151, 3) := by decide +kernel
theorem dX2_costOfTrial_29 : decode cX2_costOfTrial 29 = .ok (.if_icmp .ge 47, 3) := by decide +kernel
theorem dX2_costOfTrial_32 : decode cX2_costOfTrial 32 = .ok (.aload_n 0, 1) := by decide +kernel
theorem dX2_costOfTrial_33 : decode cX2_costOfTrial 33 = .ok (.getfield 31, 3) := by decide +kernel
theorem dX2_costOfTrial_36 : decode cX2_costOfTrial 36 = .ok (.iload 4, 2) := by decide +kernel
theorem dX2_costOfTrial_38 : decode cX2_costOfTrial 38 = .ok (.invokevirtual 154, 3) := by decide +kernel
theorem dX2_costOfTrial_41 : decode cX2_costOfTrial 41 = .ok (.istore 5, 2) := by decide +kernel
theorem dX2_costOfTrial_43 : decode cX2_costOfTrial 43 = .ok (.aload_n 0, 1) := by decide +kernel
theorem dX2_costOfTrial_44 : decode cX2_costOfTrial 44 = .ok (.getfield 25, 3) := by decide +kernel
theorem dX2_costOfTrial_47 : decode cX2_costOfTrial 47 = .ok (.aload_n 0, 1) := by decide +kernel
theorem dX2_costOfTrial_48 : decode cX2_costOfTrial 48 = .ok (.getfield 31, 3) := by decide +kernel
theorem dX2_costOfTrial_51 : decode cX2_costOfTrial 51 = .ok (.getfield 157, 3) := by decide +kernel
theorem dX2_costOfTrial_54 : decode cX2_costOfTrial 54 = .ok (.iload 5, 2) := by decide +kernel
theorem dX2_costOfTrial_56 : decode cX2_costOfTrial 56 = .ok (.iaload, 1) := by decide +kernel
theorem dX2_costOfTrial_57 : decode cX2_costOfTrial 57 = .ok (.aload_n 0, 1) := by decide +kernel
theorem dX2_costOfTrial_58 : decode cX2_costOfTrial 58 = .ok (.getfield 31, 3) := by decide +kernel
theorem dX2_costOfTrial_61 : decode cX2_costOfTrial 61 = .ok (.getfield 158, 3) := by decide +kernel
theorem dX2_costOfTrial_64 : decode cX2_costOfTrial 64 = .ok (.iload 5, 2) := by decide +kernel
theorem dX2_costOfTrial_66 : decode cX2_costOfTrial 66 = .ok (.baload, 1) := by decide +kernel
theorem dX2_costOfTrial_67 : decode cX2_costOfTrial 67 = .ok (.invokevirtual 139, 3) := by decide +kernel
theorem dX2_costOfTrial_70 : decode cX2_costOfTrial 70 = .ok (.iinc 4 1, 3) := by decide +kernel
theorem dX2_costOfTrial_73 : decode cX2_costOfTrial 73 = .ok (.goto (-53), 3) := by decide +kernel
theorem dX2_costOfTrial_76 : decode cX2_costOfTrial 76 = .ok (.aload_n 0, 1) := by decide +kernel
theorem dX2_costOfTrial_77 : decode cX2_costOfTrial 77 = .ok (.getfield 25, 3) := by decide +kernel
theorem dX2_costOfTrial_80 : decode cX2_costOfTrial 80 = .ok (.getfield 61, 3) := by decide +kernel
theorem dX2_costOfTrial_83 : decode cX2_costOfTrial 83 = .ok (.iload_n 3, 1) := by decide +kernel
theorem dX2_costOfTrial_84 : decode cX2_costOfTrial 84 = .ok (.isub, 1) := by decide +kernel
theorem dX2_costOfTrial_85 : decode cX2_costOfTrial 85 = .ok (.ireturn, 1) := by decide +kernel
theorem dX2_lineOf_0 : decode cX2_lineOf 0 = .ok (.iload_n 0, 1) := by decide +kernel
theorem dX2_lineOf_1 : decode cX2_lineOf 1 = .ok (.iconst 4, 1) := by decide +kernel
theorem dX2_lineOf_2 : decode cX2_lineOf 2 = .ok (.idiv, 1) := by decide +kernel
theorem dX2_lineOf_3 : decode cX2_lineOf 3 = .ok (.ireturn, 1) := by decide +kernel
theorem dX2_requireWord_0 : decode cX2_requireWord 0 = .ok (.iload_n 0, 1) := by decide +kernel
theorem dX2_requireWord_1 : decode cX2_requireWord 1 = .ok (.ifCond .lt 10, 3) := by decide +kernel
theorem dX2_requireWord_4 : decode cX2_requireWord 4 = .ok (.iload_n 0, 1) := by decide +kernel
theorem dX2_requireWord_5 : decode cX2_requireWord 5 = .ok (.sipush 1024, 3) := by decide +kernel
theorem dX2_requireWord_8 : decode cX2_requireWord 8 = .ok (.if_icmp .lt 13, 3) := by decide +kernel
theorem dX2_requireWord_11 : decode cX2_requireWord 11 = .ok (.new 107, 3) := by decide +kernel
theorem dX2_requireWord_14 : decode cX2_requireWord 14 = .ok (.dup, 1) := by decide +kernel
theorem dX2_requireWord_15 : decode cX2_requireWord 15 = .ok (.ldc 161, 2) := by decide +kernel
theorem dX2_requireWord_17 : decode cX2_requireWord 17 = .ok (.invokespecial 111, 3) := by decide +kernel
theorem dX2_requireWord_20 : decode cX2_requireWord 20 = .ok (.athrow, 1) := by decide +kernel
theorem dX2_requireWord_21 : decode cX2_requireWord 21 = .ok (.return_, 1) := by decide +kernel
theorem dX2_requireLine_0 : decode cX2_requireLine 0 = .ok (.iload_n 0, 1) := by decide +kernel
theorem dX2_requireLine_1 : decode cX2_requireLine 1 = .ok (.ifCond .lt 10, 3) := by decide +kernel
theorem dX2_requireLine_4 : decode cX2_requireLine 4 = .ok (.iload_n 0, 1) := by decide +kernel
theorem dX2_requireLine_5 : decode cX2_requireLine 5 = .ok (.sipush 256, 3) := by decide +kernel
theorem dX2_requireLine_8 : decode cX2_requireLine 8 = .ok (.if_icmp .lt 13, 3) := by decide +kernel
theorem dX2_requireLine_11 : decode cX2_requireLine 11 = .ok (.new 107, 3) := by decide +kernel
theorem dX2_requireLine_14 : decode cX2_requireLine 14 = .ok (.dup, 1) := by decide +kernel
theorem dX2_requireLine_15 : decode cX2_requireLine 15 = .ok (.ldc 163, 2) := by decide +kernel
theorem dX2_requireLine_17 : decode cX2_requireLine 17 = .ok (.invokespecial 111, 3) := by decide +kernel
theorem dX2_requireLine_20 : decode cX2_requireLine 20 = .ok (.athrow, 1) := by decide +kernel
theorem dX2_requireLine_21 : decode cX2_requireLine 21 = .ok (.return_, 1) := by decide +kernel
theorem dX2_requireSet_0 : decode cX2_requireSet 0 = .ok (.iload_n 1, 1) := by decide +kernel
theorem dX2_requireSet_1 : decode cX2_requireSet 1 = .ok (.ifCond .lt 14, 3) := by decide +kernel
theorem dX2_requireSet_4 : decode cX2_requireSet 4 = .ok (.iload_n 1, 1) := by decide +kernel
theorem dX2_requireSet_5 : decode cX2_requireSet 5 = .ok (.aload_n 0, 1) := by decide +kernel
theorem dX2_requireSet_6 : decode cX2_requireSet 6 = .ok (.getfield 21, 3) := by decide +kernel
theorem dX2_requireSet_9 : decode cX2_requireSet 9 = .ok (.getfield 98, 3) := by decide +kernel
theorem dX2_requireSet_12 : decode cX2_requireSet 12 = .ok (.if_icmp .lt 13, 3) := by decide +kernel
theorem dX2_requireSet_15 : decode cX2_requireSet 15 = .ok (.new 107, 3) := by decide +kernel
theorem dX2_requireSet_18 : decode cX2_requireSet 18 = .ok (.dup, 1) := by decide +kernel
theorem dX2_requireSet_19 : decode cX2_requireSet 19 = .ok (.ldc 165, 2) := by decide +kernel
theorem dX2_requireSet_21 : decode cX2_requireSet 21 = .ok (.invokespecial 111, 3) := by decide +kernel
theorem dX2_requireSet_24 : decode cX2_requireSet 24 = .ok (.athrow, 1) := by decide +kernel
theorem dX2_requireSet_25 : decode cX2_requireSet 25 = .ok (.return_, 1) := by decide +kernel
theorem dX2_requireSize_0 : decode cX2_requireSize 0 = .ok (.iload_n 0, 1) := by decide +kernel
theorem dX2_requireSize_1 : decode cX2_requireSize 1 = .ok (.iconst 1, 1) := by decide +kernel
theorem dX2_requireSize_2 : decode cX2_requireSize 2 = .ok (.if_icmp .eq 25, 3) := by decide +kernel
theorem dX2_requireSize_5 : decode cX2_requireSize 5 = .ok (.iload_n 0, 1) := by decide +kernel
theorem dX2_requireSize_6 : decode cX2_requireSize 6 = .ok (.iconst 2, 1) := by decide +kernel
theorem dX2_requireSize_7 : decode cX2_requireSize 7 = .ok (.if_icmp .eq 20, 3) := by decide +kernel
theorem dX2_requireSize_10 : decode cX2_requireSize 10 = .ok (.iload_n 0, 1) := by decide +kernel
theorem dX2_requireSize_11 : decode cX2_requireSize 11 = .ok (.iconst 4, 1) := by decide +kernel
theorem dX2_requireSize_12 : decode cX2_requireSize 12 = .ok (.if_icmp .eq 15, 3) := by decide +kernel
theorem dX2_requireSize_15 : decode cX2_requireSize 15 = .ok (.iload_n 0, 1) := by decide +kernel
theorem dX2_requireSize_16 : decode cX2_requireSize 16 = .ok (.bipush 8, 2) := by decide +kernel
theorem dX2_requireSize_18 : decode cX2_requireSize 18 = .ok (.if_icmp .eq 9, 3) := by decide +kernel
theorem dX2_requireSize_21 : decode cX2_requireSize 21 = .ok (.iload_n 0, 1) := by decide +kernel
theorem dX2_requireSize_22 : decode cX2_requireSize 22 = .ok (.bipush 16, 2) := by decide +kernel
theorem dX2_requireSize_24 : decode cX2_requireSize 24 = .ok (.if_icmp .ne 7, 3) := by decide +kernel
theorem dX2_requireSize_27 : decode cX2_requireSize 27 = .ok (.iconst 1, 1) := by decide +kernel
theorem dX2_requireSize_28 : decode cX2_requireSize 28 = .ok (.goto 4, 3) := by decide +kernel
theorem dX2_requireSize_31 : decode cX2_requireSize 31 = .ok (.iconst 0, 1) := by decide +kernel
theorem dX2_requireSize_32 : decode cX2_requireSize 32 = .ok (.istore_n 2, 1) := by decide +kernel
theorem dX2_requireSize_33 : decode cX2_requireSize 33 = .ok (.iload_n 2, 1) := by decide +kernel
theorem dX2_requireSize_34 : decode cX2_requireSize 34 = .ok (.ifCond .eq 13, 3) := by decide +kernel
theorem dX2_requireSize_37 : decode cX2_requireSize 37 = .ok (.iload_n 1, 1) := by decide +kernel
theorem dX2_requireSize_38 : decode cX2_requireSize 38 = .ok (.ifCond .lt 9, 3) := by decide +kernel
theorem dX2_requireSize_41 : decode cX2_requireSize 41 = .ok (.iload_n 1, 1) := by decide +kernel
theorem dX2_requireSize_42 : decode cX2_requireSize 42 = .ok (.bipush 8, 2) := by decide +kernel
theorem dX2_requireSize_44 : decode cX2_requireSize 44 = .ok (.if_icmp .le 13, 3) := by decide +kernel
theorem dX2_requireSize_47 : decode cX2_requireSize 47 = .ok (.new 54, 3) := by decide +kernel
theorem dX2_requireSize_50 : decode cX2_requireSize 50 = .ok (.dup, 1) := by decide +kernel
theorem dX2_requireSize_51 : decode cX2_requireSize 51 = .ok (.ldc 167, 2) := by decide +kernel
theorem dX2_requireSize_53 : decode cX2_requireSize 53 = .ok (.invokespecial 58, 3) := by decide +kernel
theorem dX2_requireSize_56 : decode cX2_requireSize 56 = .ok (.athrow, 1) := by decide +kernel
theorem dX2_requireSize_57 : decode cX2_requireSize 57 = .ok (.return_, 1) := by decide +kernel
end
section
set_option maxRecDepth 20000 in
theorem ggX3_init_X3_empties : GoodIn wsX3_init wsX3_empties := goodIn_r _ [19, 9, 11, 12, 20, 21, 22, 23, 24, 25, 26, 27, 28, 29, 30, 31, 32, 33, 34, 35] (by decide +kernel) (by decide +kernel)
set_option maxRecDepth 20000 in
theorem gX3_init_X3_empties : GoodIn wsX3_init (wsV RX3 40 RX3 yX3_empties wsX3_empties) := goodIn_app (goodIn_of _ (by decide +kernel)) ggX3_init_X3_empties
theorem dX3_init_0 : decode cX3_init 0 = .ok (.aload_n 0, 1) := by decide +kernel
theorem dX3_init_1 : decode cX3_init 1 = .ok (.invokespecial 1, 3) := by decide +kernel
theorem dX3_init_4 : decode cX3_init 4 = .ok (.aload_n 0, 1) := by decide +kernel
theorem dX3_init_5 : decode cX3_init 5 = .ok (.sipush 1024, 3) := by decide +kernel
theorem dX3_init_8 : decode cX3_init 8 = .ok (.newarray .int, 2) := by decide +kernel
theorem dX3_init_10 : decode cX3_init 10 = .ok (.putfield 7, 3) := by decide +kernel
theorem dX3_init_13 : decode cX3_init 13 = .ok (.aload_n 0, 1) := by decide +kernel
theorem dX3_init_14 : decode cX3_init 14 = .ok (.sipush 1024, 3) := by decide +kernel
theorem dX3_init_17 : decode cX3_init 17 = .ok (.newarray .int, 2) := by decide +kernel
theorem dX3_init_19 : decode cX3_init 19 = .ok (.putfield 13, 3) := by decide +kernel
theorem dX3_init_22 : decode cX3_init 22 = .ok (.aload_n 0, 1) := by decide +kernel
theorem dX3_init_23 : decode cX3_init 23 = .ok (.iconst 2, 1) := by decide +kernel
theorem dX3_init_24 : decode cX3_init 24 = .ok (.newarray .int, 2) := by decide +kernel
theorem dX3_init_26 : decode cX3_init 26 = .ok (.putfield 16, 3) := by decide +kernel
theorem dX3_init_29 : decode cX3_init 29 = .ok (.aload_n 0, 1) := by decide +kernel
theorem dX3_init_30 : decode cX3_init 30 = .ok (.iconst 2, 1) := by decide +kernel
theorem dX3_init_31 : decode cX3_init 31 = .ok (.newarray .int, 2) := by decide +kernel
theorem dX3_init_33 : decode cX3_init 33 = .ok (.putfield 19, 3) := by decide +kernel
theorem dX3_init_36 : decode cX3_init 36 = .ok (.aload_n 0, 1) := by decide +kernel
theorem dX3_init_37 : decode cX3_init 37 = .ok (.bipush 32, 2) := by decide +kernel
theorem dX3_init_39 : decode cX3_init 39 = .ok (.newarray .int, 2) := by decide +kernel
theorem dX3_init_41 : decode cX3_init 41 = .ok (.putfield 22, 3) := by decide +kernel
theorem dX3_init_44 : decode cX3_init 44 = .ok (.aload_n 0, 1) := by decide +kernel
theorem dX3_init_45 : decode cX3_init 45 = .ok (.bipush 16, 2) := by decide +kernel
theorem dX3_init_47 : decode cX3_init 47 = .ok (.newarray .int, 2) := by decide +kernel
theorem dX3_init_49 : decode cX3_init 49 = .ok (.putfield 25, 3) := by decide +kernel
theorem dX3_init_52 : decode cX3_init 52 = .ok (.aload_n 0, 1) := by decide +kernel
theorem dX3_init_53 : decode cX3_init 53 = .ok (.iconst 2, 1) := by decide +kernel
theorem dX3_init_54 : decode cX3_init 54 = .ok (.newarray .int, 2) := by decide +kernel
theorem dX3_init_56 : decode cX3_init 56 = .ok (.putfield 28, 3) := by decide +kernel
theorem dX3_init_59 : decode cX3_init 59 = .ok (.aload_n 0, 1) := by decide +kernel
theorem dX3_init_60 : decode cX3_init 60 = .ok (.sipush 512, 3) := by decide +kernel
theorem dX3_init_63 : decode cX3_init 63 = .ok (.newarray .int, 2) := by decide +kernel
theorem dX3_init_65 : decode cX3_init 65 = .ok (.putfield 31, 3) := by decide +kernel
theorem dX3_init_68 : decode cX3_init 68 = .ok (.aload_n 0, 1) := by decide +kernel
theorem dX3_init_69 : decode cX3_init 69 = .ok (.iconst 2, 1) := by decide +kernel
theorem dX3_init_70 : decode cX3_init 70 = .ok (.newarray .int, 2) := by decide +kernel
theorem dX3_init_72 : decode cX3_init 72 = .ok (.putfield 34, 3) := by decide +kernel
theorem dX3_init_75 : decode cX3_init 75 = .ok (.aload_n 0, 1) := by decide +kernel
theorem dX3_init_76 : decode cX3_init 76 = .ok (.sipush 150, 3) := by decide +kernel
theorem dX3_init_79 : decode cX3_init 79 = .ok (.newarray .int, 2) := by decide +kernel
theorem dX3_init_81 : decode cX3_init 81 = .ok (.putfield 37, 3) := by decide +kernel
theorem dX3_init_84 : decode cX3_init 84 = .ok (.aload_n 0, 1) := by decide +kernel
theorem dX3_init_85 : decode cX3_init 85 = .ok (.getfield 16, 3) := by decide +kernel
theorem dX3_init_88 : decode cX3_init 88 = .ok (.iconst 0, 1) := by decide +kernel
theorem dX3_init_89 : decode cX3_init 89 = .ok (.iconst 4, 1) := by decide +kernel
theorem dX3_init_90 : decode cX3_init 90 = .ok (.iastore, 1) := by decide +kernel
theorem dX3_init_91 : decode cX3_init 91 = .ok (.aload_n 0, 1) := by decide +kernel
theorem dX3_init_92 : decode cX3_init 92 = .ok (.getfield 19, 3) := by decide +kernel
theorem dX3_init_95 : decode cX3_init 95 = .ok (.iconst 0, 1) := by decide +kernel
theorem dX3_init_96 : decode cX3_init 96 = .ok (.iconst 2, 1) := by decide +kernel
theorem dX3_init_97 : decode cX3_init 97 = .ok (.iastore, 1) := by decide +kernel
theorem dX3_init_98 : decode cX3_init 98 = .ok (.aload_n 0, 1) := by decide +kernel
theorem dX3_init_99 : decode cX3_init 99 = .ok (.iconst 0, 1) := by decide +kernel
theorem dX3_init_100 : decode cX3_init 100 = .ok (.invokevirtual 40, 3) := by decide +kernel
theorem dX3_init_103 : decode cX3_init 103 = .ok (.return_, 1) := by decide +kernel
theorem dX3_thrown_0 : decode cX3_thrown 0 = .ok (.aload_n 0, 1) := by decide +kernel
theorem dX3_thrown_1 : decode cX3_thrown 1 = .ok (.getfield 44, 3) := by decide +kernel
theorem dX3_thrown_4 : decode cX3_thrown 4 = .ok (.ireturn, 1) := by decide +kernel
theorem dX3_isWord_0 : decode cX3_isWord 0 = .ok (.iload_n 0, 1) := by decide +kernel
theorem dX3_isWord_1 : decode cX3_isWord 1 = .ok (.ifCond .lt 14, 3) := by decide +kernel
theorem dX3_isWord_4 : decode cX3_isWord 4 = .ok (.iload_n 0, 1) := by decide +kernel
theorem dX3_isWord_5 : decode cX3_isWord 5 = .ok (.sipush 1024, 3) := by decide +kernel
theorem dX3_isWord_8 : decode cX3_isWord 8 = .ok (.if_icmp .ge 7, 3) := by decide +kernel
theorem dX3_isWord_11 : decode cX3_isWord 11 = .ok (.iconst 1, 1) := by decide +kernel
theorem dX3_isWord_12 : decode cX3_isWord 12 = .ok (.goto 4, 3) := by decide +kernel
theorem dX3_isWord_15 : decode cX3_isWord 15 = .ok (.iconst 0, 1) := by decide +kernel
theorem dX3_isWord_16 : decode cX3_isWord 16 = .ok (.ireturn, 1) := by decide +kernel
theorem dX3_isSize_0 : decode cX3_isSize 0 = .ok (.iload_n 0, 1) := by decide +kernel
theorem dX3_isSize_1 : decode cX3_isSize 1 = .ok (.iconst 1, 1) := by decide +kernel
theorem dX3_isSize_2 : decode cX3_isSize 2 = .ok (.if_icmp .eq 25, 3) := by decide +kernel
theorem dX3_isSize_5 : decode cX3_isSize 5 = .ok (.iload_n 0, 1) := by decide +kernel
theorem dX3_isSize_6 : decode cX3_isSize 6 = .ok (.iconst 2, 1) := by decide +kernel
theorem dX3_isSize_7 : decode cX3_isSize 7 = .ok (.if_icmp .eq 20, 3) := by decide +kernel
theorem dX3_isSize_10 : decode cX3_isSize 10 = .ok (.iload_n 0, 1) := by decide +kernel
theorem dX3_isSize_11 : decode cX3_isSize 11 = .ok (.iconst 4, 1) := by decide +kernel
theorem dX3_isSize_12 : decode cX3_isSize 12 = .ok (.if_icmp .eq 15, 3) := by decide +kernel
theorem dX3_isSize_15 : decode cX3_isSize 15 = .ok (.iload_n 0, 1) := by decide +kernel
theorem dX3_isSize_16 : decode cX3_isSize 16 = .ok (.bipush 8, 2) := by decide +kernel
theorem dX3_isSize_18 : decode cX3_isSize 18 = .ok (.if_icmp .eq 9, 3) := by decide +kernel
theorem dX3_isSize_21 : decode cX3_isSize 21 = .ok (.iload_n 0, 1) := by decide +kernel
theorem dX3_isSize_22 : decode cX3_isSize 22 = .ok (.bipush 16, 2) := by decide +kernel
theorem dX3_isSize_24 : decode cX3_isSize 24 = .ok (.if_icmp .ne 17, 3) := by decide +kernel
theorem dX3_isSize_27 : decode cX3_isSize 27 = .ok (.iload_n 1, 1) := by decide +kernel
theorem dX3_isSize_28 : decode cX3_isSize 28 = .ok (.ifCond .lt 13, 3) := by decide +kernel
theorem dX3_isSize_31 : decode cX3_isSize 31 = .ok (.iload_n 1, 1) := by decide +kernel
theorem dX3_isSize_32 : decode cX3_isSize 32 = .ok (.bipush 8, 2) := by decide +kernel
theorem dX3_isSize_34 : decode cX3_isSize 34 = .ok (.if_icmp .gt 7, 3) := by decide +kernel
theorem dX3_isSize_37 : decode cX3_isSize 37 = .ok (.iconst 1, 1) := by decide +kernel
theorem dX3_isSize_38 : decode cX3_isSize 38 = .ok (.goto 4, 3) := by decide +kernel
theorem dX3_isSize_41 : decode cX3_isSize 41 = .ok (.iconst 0, 1) := by decide +kernel
theorem dX3_isSize_42 : decode cX3_isSize 42 = .ok (.ireturn, 1) := by decide +kernel
theorem dX3_empties_0 : decode cX3_empties 0 = .ok (.iconst 0, 1) := by decide +kernel
theorem dX3_empties_1 : decode cX3_empties 1 = .ok (.istore_n 2, 1) := by decide +kernel
theorem dX3_empties_2 : decode cX3_empties 2 = .ok (.iload_n 2, 1) := by decide +kernel
theorem dX3_empties_3 : decode cX3_empties 3 = .ok (.bipush 16, 2) := by decide +kernel
theorem dX3_empties_5 : decode cX3_empties 5 = .ok (.if_icmp .ge 21, 3) := by decide +kernel
theorem dX3_empties_8 : decode cX3_empties 8 = .ok (.aload_n 0, 1) := by decide +kernel
theorem dX3_empties_9 : decode cX3_empties 9 = .ok (.getfield 22, 3) := by decide +kernel
theorem dX3_empties_12 : decode cX3_empties 12 = .ok (.bipush 16, 2) := by decide +kernel
theorem dX3_empties_14 : decode cX3_empties 14 = .ok (.iload_n 1, 1) := by decide +kernel
theorem dX3_empties_15 : decode cX3_empties 15 = .ok (.imul, 1) := by decide +kernel
theorem dX3_empties_16 : decode cX3_empties 16 = .ok (.iload_n 2, 1) := by decide +kernel
theorem dX3_empties_17 : decode cX3_empties 17 = .ok (.iadd, 1) := by decide +kernel
theorem dX3_empties_18 : decode cX3_empties 18 = .ok (.iconst (-1), 1) := by decide +kernel
theorem dX3_empties_19 : decode cX3_empties 19 = .ok (.iastore, 1) := by decide +kernel
theorem dX3_empties_20 : decode cX3_empties 20 = .ok (.iinc 2 1, 3) := by decide +kernel
theorem dX3_empties_23 : decode cX3_empties 23 = .ok (.goto (-21), 3) := by decide +kernel
theorem dX3_empties_26 : decode cX3_empties 26 = .ok (.aload_n 0, 1) := by decide +kernel
theorem dX3_empties_27 : decode cX3_empties 27 = .ok (.getfield 28, 3) := by decide +kernel
theorem dX3_empties_30 : decode cX3_empties 30 = .ok (.iload_n 1, 1) := by decide +kernel
theorem dX3_empties_31 : decode cX3_empties 31 = .ok (.iconst 0, 1) := by decide +kernel
theorem dX3_empties_32 : decode cX3_empties 32 = .ok (.iastore, 1) := by decide +kernel
theorem dX3_empties_33 : decode cX3_empties 33 = .ok (.iconst 0, 1) := by decide +kernel
theorem dX3_empties_34 : decode cX3_empties 34 = .ok (.istore_n 2, 1) := by decide +kernel
theorem dX3_empties_35 : decode cX3_empties 35 = .ok (.iload_n 2, 1) := by decide +kernel
theorem dX3_empties_36 : decode cX3_empties 36 = .ok (.sipush 256, 3) := by decide +kernel
theorem dX3_empties_39 : decode cX3_empties 39 = .ok (.if_icmp .ge 22, 3) := by decide +kernel
theorem dX3_empties_42 : decode cX3_empties 42 = .ok (.aload_n 0, 1) := by decide +kernel
theorem dX3_empties_43 : decode cX3_empties 43 = .ok (.getfield 31, 3) := by decide +kernel
theorem dX3_empties_46 : decode cX3_empties 46 = .ok (.sipush 256, 3) := by decide +kernel
theorem dX3_empties_49 : decode cX3_empties 49 = .ok (.iload_n 1, 1) := by decide +kernel
theorem dX3_empties_50 : decode cX3_empties 50 = .ok (.imul, 1) := by decide +kernel
theorem dX3_empties_51 : decode cX3_empties 51 = .ok (.iload_n 2, 1) := by decide +kernel
theorem dX3_empties_52 : decode cX3_empties 52 = .ok (.iadd, 1) := by decide +kernel
theorem dX3_empties_53 : decode cX3_empties 53 = .ok (.iconst 0, 1) := by decide +kernel
theorem dX3_empties_54 : decode cX3_empties 54 = .ok (.iastore, 1) := by decide +kernel
theorem dX3_empties_55 : decode cX3_empties 55 = .ok (.iinc 2 1, 3) := by decide +kernel
theorem dX3_empties_58 : decode cX3_empties 58 = .ok (.goto (-23), 3) := by decide +kernel
theorem dX3_empties_61 : decode cX3_empties 61 = .ok (.return_, 1) := by decide +kernel
theorem dX3_comesHome_0 : decode cX3_comesHome 0 = .ok (.aload_n 0, 1) := by decide +kernel
theorem dX3_comesHome_1 : decode cX3_comesHome 1 = .ok (.getfield 34, 3) := by decide +kernel
theorem dX3_comesHome_4 : decode cX3_comesHome 4 = .ok (.iload_n 1, 1) := by decide +kernel
theorem dX3_comesHome_5 : decode cX3_comesHome 5 = .ok (.dup2, 1) := by decide +kernel
theorem dX3_comesHome_6 : decode cX3_comesHome 6 = .ok (.iaload, 1) := by decide +kernel
theorem dX3_comesHome_7 : decode cX3_comesHome 7 = .ok (.bipush 10, 2) := by decide +kernel
theorem dX3_comesHome_9 : decode cX3_comesHome 9 = .ok (.iadd, 1) := by decide +kernel
theorem dX3_comesHome_10 : decode cX3_comesHome 10 = .ok (.iastore, 1) := by decide +kernel
theorem dX3_comesHome_11 : decode cX3_comesHome 11 = .ok (.aload_n 0, 1) := by decide +kernel
theorem dX3_comesHome_12 : decode cX3_comesHome 12 = .ok (.getfield 31, 3) := by decide +kernel
theorem dX3_comesHome_15 : decode cX3_comesHome 15 = .ok (.sipush 256, 3) := by decide +kernel
theorem dX3_comesHome_18 : decode cX3_comesHome 18 = .ok (.iload_n 1, 1) := by decide +kernel
theorem dX3_comesHome_19 : decode cX3_comesHome 19 = .ok (.imul, 1) := by decide +kernel
theorem dX3_comesHome_20 : decode cX3_comesHome 20 = .ok (.iload_n 2, 1) := by decide +kernel
theorem dX3_comesHome_21 : decode cX3_comesHome 21 = .ok (.iadd, 1) := by decide +kernel
theorem dX3_comesHome_22 : decode cX3_comesHome 22 = .ok (.iconst 0, 1) := by decide +kernel
theorem dX3_comesHome_23 : decode cX3_comesHome 23 = .ok (.iastore, 1) := by decide +kernel
theorem dX3_comesHome_24 : decode cX3_comesHome 24 = .ok (.iconst 4, 1) := by decide +kernel
theorem dX3_comesHome_25 : decode cX3_comesHome 25 = .ok (.iload_n 2, 1) := by decide +kernel
theorem dX3_comesHome_26 : decode cX3_comesHome 26 = .ok (.imul, 1) := by decide +kernel
theorem dX3_comesHome_27 : decode cX3_comesHome 27 = .ok (.istore_n 3, 1) := by decide +kernel
theorem dX3_comesHome_28 : decode cX3_comesHome 28 = .ok (.iload_n 3, 1) := by decide +kernel
theorem dX3_comesHome_29 : decode cX3_comesHome 29 = .ok (.iconst 4, 1) := by decide +kernel
theorem dX3_comesHome_30 : decode cX3_comesHome 30 = .ok (.iload_n 2, 1) := by decide +kernel
theorem dX3_comesHome_31 : decode cX3_comesHome 31 = .ok (.imul, 1) := by decide +kernel
theorem dX3_comesHome_32 : decode cX3_comesHome 32 = .ok (.iconst 4, 1) := by decide +kernel
theorem dX3_comesHome_33 : decode cX3_comesHome 33 = .ok (.iadd, 1) := by decide +kernel
theorem dX3_comesHome_34 : decode cX3_comesHome 34 = .ok (.if_icmp .ge 25, 3) := by decide +kernel
theorem dX3_comesHome_37 : decode cX3_comesHome 37 = .ok (.iload_n 1, 1) := by decide +kernel
theorem dX3_comesHome_38 : decode cX3_comesHome 38 = .ok (.ifCond .ne 21, 3) := by decide +kernel
theorem dX3_comesHome_41 : decode cX3_comesHome 41 = .ok (.aload_n 0, 1) := by decide +kernel
theorem dX3_comesHome_42 : decode cX3_comesHome 42 = .ok (.getfield 13, 3) := by decide +kernel
theorem dX3_comesHome_45 : decode cX3_comesHome 45 = .ok (.iload_n 3, 1) := by decide +kernel
theorem dX3_comesHome_46 : decode cX3_comesHome 46 = .ok (.aload_n 0, 1) := by decide +kernel
theorem dX3_comesHome_47 : decode cX3_comesHome 47 = .ok (.getfield 7, 3) := by decide +kernel
theorem dX3_comesHome_50 : decode cX3_comesHome 50 = .ok (.iload_n 3, 1) := by decide +kernel
theorem dX3_comesHome_51 : decode cX3_comesHome 51 = .ok (.iaload, 1) := by decide +kernel
theorem dX3_comesHome_52 : decode cX3_comesHome 52 = .ok (.iastore, 1) := by decide +kernel
theorem dX3_comesHome_53 : decode cX3_comesHome 53 = .ok (.iinc 3 1, 3) := by decide +kernel
theorem dX3_comesHome_56 : decode cX3_comesHome 56 = .ok (.goto (-28), 3) := by decide +kernel
theorem dX3_comesHome_59 : decode cX3_comesHome 59 = .ok (.aload_n 0, 1) := by decide +kernel
theorem dX3_comesHome_60 : decode cX3_comesHome 60 = .ok (.dup, 1) := by decide +kernel
theorem dX3_comesHome_61 : decode cX3_comesHome 61 = .ok (.getfield 48, 3) := by decide +kernel
theorem dX3_comesHome_64 : decode cX3_comesHome 64 = .ok (.iload_n 1, 1) := by decide +kernel
theorem dX3_comesHome_65 : decode cX3_comesHome 65 = .ok (.ifCond .ne 7, 3) := by decide +kernel
theorem dX3_comesHome_68 : decode cX3_comesHome 68 = .ok (.iconst 1, 1) := by decide +kernel
theorem dX3_comesHome_69 : decode cX3_comesHome 69 = .ok (.goto 4, 3) := by decide +kernel
theorem dX3_comesHome_72 : decode cX3_comesHome 72 = .ok (.iconst 0, 1) := by decide +kernel
theorem dX3_comesHome_73 : decode cX3_comesHome 73 = .ok (.iadd, 1) := by decide +kernel
theorem dX3_comesHome_74 : decode cX3_comesHome 74 = .ok (.putfield 48, 3) := by decide +kernel
theorem dX3_comesHome_77 : decode cX3_comesHome 77 = .ok (.return_, 1) := by decide +kernel
set_option maxRecDepth 20000 in
theorem ggX3_goesHome_X3_comesHome : GoodIn wsX3_goesHome wsX3_comesHome := goodIn_r _ [6, 7, 1, 8, 9, 10, 11, 12, 13, 14, 15, 16, 17, 18, 19, 20, 21, 22, 23, 24, 25, 26] (by decide +kernel) (by decide +kernel)
set_option maxRecDepth 20000 in
theorem gX3_goesHome_X3_comesHome : GoodIn wsX3_goesHome (wsV RX3 51 RX3 yX3_comesHome wsX3_comesHome) := goodIn_app (goodIn_of _ (by decide +kernel)) ggX3_goesHome_X3_comesHome
theorem dX3_goesHome_0 : decode cX3_goesHome 0 = .ok (.aload_n 0, 1) := by decide +kernel
theorem dX3_goesHome_1 : decode cX3_goesHome 1 = .ok (.getfield 31, 3) := by decide +kernel
theorem dX3_goesHome_4 : decode cX3_goesHome 4 = .ok (.sipush 256, 3) := by decide +kernel
theorem dX3_goesHome_7 : decode cX3_goesHome 7 = .ok (.iload_n 1, 1) := by decide +kernel
theorem dX3_goesHome_8 : decode cX3_goesHome 8 = .ok (.imul, 1) := by decide +kernel
theorem dX3_goesHome_9 : decode cX3_goesHome 9 = .ok (.iload_n 2, 1) := by decide +kernel
theorem dX3_goesHome_10 : decode cX3_goesHome 10 = .ok (.iadd, 1) := by decide +kernel
theorem dX3_goesHome_11 : decode cX3_goesHome 11 = .ok (.iaload, 1) := by decide +kernel
theorem dX3_goesHome_12 : decode cX3_goesHome 12 = .ok (.iconst 1, 1) := by decide +kernel
theorem dX3_goesHome_13 : decode cX3_goesHome 13 = .ok (.if_icmp .ne 9, 3) := by decide +kernel
theorem dX3_goesHome_16 : decode cX3_goesHome 16 = .ok (.aload_n 0, 1) := by decide +kernel
theorem dX3_goesHome_17 : decode cX3_goesHome 17 = .ok (.iload_n 1, 1) := by decide +kernel
theorem dX3_goesHome_18 : decode cX3_goesHome 18 = .ok (.iload_n 2, 1) := by decide +kernel
theorem dX3_goesHome_19 : decode cX3_goesHome 19 = .ok (.invokevirtual 51, 3) := by decide +kernel
theorem dX3_goesHome_22 : decode cX3_goesHome 22 = .ok (.return_, 1) := by decide +kernel
theorem dX3_seat_0 : decode cX3_seat 0 = .ok (.iconst 0, 1) := by decide +kernel
theorem dX3_seat_1 : decode cX3_seat 1 = .ok (.istore_n 3, 1) := by decide +kernel
theorem dX3_seat_2 : decode cX3_seat 2 = .ok (.iload_n 3, 1) := by decide +kernel
theorem dX3_seat_3 : decode cX3_seat 3 = .ok (.aload_n 0, 1) := by decide +kernel
theorem dX3_seat_4 : decode cX3_seat 4 = .ok (.getfield 28, 3) := by decide +kernel
theorem dX3_seat_7 : decode cX3_seat 7 = .ok (.iload_n 1, 1) := by decide +kernel
theorem dX3_seat_8 : decode cX3_seat 8 = .ok (.iaload, 1) := by decide +kernel
theorem dX3_seat_9 : decode cX3_seat 9 = .ok (.if_icmp .ge 26, 3) := by decide +kernel
theorem dX3_seat_12 : decode cX3_seat 12 = .ok (.aload_n 0, 1) := by decide +kernel
theorem dX3_seat_13 : decode cX3_seat 13 = .ok (.getfield 25, 3) := by decide +kernel
theorem dX3_seat_16 : decode cX3_seat 16 = .ok (.bipush 8, 2) := by decide +kernel
theorem dX3_seat_18 : decode cX3_seat 18 = .ok (.iload_n 1, 1) := by decide +kernel
theorem dX3_seat_19 : decode cX3_seat 19 = .ok (.imul, 1) := by decide +kernel
theorem dX3_seat_20 : decode cX3_seat 20 = .ok (.iload_n 3, 1) := by decide +kernel
theorem dX3_seat_21 : decode cX3_seat 21 = .ok (.iadd, 1) := by decide +kernel
theorem dX3_seat_22 : decode cX3_seat 22 = .ok (.iaload, 1) := by decide +kernel
theorem dX3_seat_23 : decode cX3_seat 23 = .ok (.iload_n 2, 1) := by decide +kernel
theorem dX3_seat_24 : decode cX3_seat 24 = .ok (.if_icmp .ne 5, 3) := by decide +kernel
theorem dX3_seat_27 : decode cX3_seat 27 = .ok (.iload_n 3, 1) := by decide +kernel
theorem dX3_seat_28 : decode cX3_seat 28 = .ok (.ireturn, 1) := by decide +kernel
theorem dX3_seat_29 : decode cX3_seat 29 = .ok (.iinc 3 1, 3) := by decide +kernel
theorem dX3_seat_32 : decode cX3_seat 32 = .ok (.goto (-30), 3) := by decide +kernel
theorem dX3_seat_35 : decode cX3_seat 35 = .ok (.iconst (-1), 1) := by decide +kernel
theorem dX3_seat_36 : decode cX3_seat 36 = .ok (.ireturn, 1) := by decide +kernel
theorem dX3_leavesBench_0 : decode cX3_leavesBench 0 = .ok (.aload_n 0, 1) := by decide +kernel
theorem dX3_leavesBench_1 : decode cX3_leavesBench 1 = .ok (.getfield 28, 3) := by decide +kernel
theorem dX3_leavesBench_4 : decode cX3_leavesBench 4 = .ok (.iload_n 1, 1) := by decide +kernel
theorem dX3_leavesBench_5 : decode cX3_leavesBench 5 = .ok (.dup2, 1) := by decide +kernel
theorem dX3_leavesBench_6 : decode cX3_leavesBench 6 = .ok (.iaload, 1) := by decide +kernel
theorem dX3_leavesBench_7 : decode cX3_leavesBench 7 = .ok (.iconst 1, 1) := by decide +kernel
theorem dX3_leavesBench_8 : decode cX3_leavesBench 8 = .ok (.isub, 1) := by decide +kernel
theorem dX3_leavesBench_9 : decode cX3_leavesBench 9 = .ok (.iastore, 1) := by decide +kernel
theorem dX3_leavesBench_10 : decode cX3_leavesBench 10 = .ok (.iload_n 2, 1) := by decide +kernel
theorem dX3_leavesBench_11 : decode cX3_leavesBench 11 = .ok (.istore_n 3, 1) := by decide +kernel
theorem dX3_leavesBench_12 : decode cX3_leavesBench 12 = .ok (.iload_n 3, 1) := by decide +kernel
theorem dX3_leavesBench_13 : decode cX3_leavesBench 13 = .ok (.aload_n 0, 1) := by decide +kernel
theorem dX3_leavesBench_14 : decode cX3_leavesBench 14 = .ok (.getfield 28, 3) := by decide +kernel
theorem dX3_leavesBench_17 : decode cX3_leavesBench 17 = .ok (.iload_n 1, 1) := by decide +kernel
theorem dX3_leavesBench_18 : decode cX3_leavesBench 18 = .ok (.iaload, 1) := by decide +kernel
theorem dX3_leavesBench_19 : decode cX3_leavesBench 19 = .ok (.if_icmp .ge 33, 3) := by decide +kernel
theorem dX3_leavesBench_22 : decode cX3_leavesBench 22 = .ok (.aload_n 0, 1) := by decide +kernel
theorem dX3_leavesBench_23 : decode cX3_leavesBench 23 = .ok (.getfield 25, 3) := by decide +kernel
theorem dX3_leavesBench_26 : decode cX3_leavesBench 26 = .ok (.bipush 8, 2) := by decide +kernel
theorem dX3_leavesBench_28 : decode cX3_leavesBench 28 = .ok (.iload_n 1, 1) := by decide +kernel
theorem dX3_leavesBench_29 : decode cX3_leavesBench 29 = .ok (.imul, 1) := by decide +kernel
theorem dX3_leavesBench_30 : decode cX3_leavesBench 30 = .ok (.iload_n 3, 1) := by decide +kernel
theorem dX3_leavesBench_31 : decode cX3_leavesBench 31 = .ok (.iadd, 1) := by decide +kernel
theorem dX3_leavesBench_32 : decode cX3_leavesBench 32 = .ok (.aload_n 0, 1) := by decide +kernel
theorem dX3_leavesBench_33 : decode cX3_leavesBench 33 = .ok (.getfield 25, 3) := by decide +kernel
theorem dX3_leavesBench_36 : decode cX3_leavesBench 36 = .ok (.bipush 8, 2) := by decide +kernel
theorem dX3_leavesBench_38 : decode cX3_leavesBench 38 = .ok (.iload_n 1, 1) := by decide +kernel
theorem dX3_leavesBench_39 : decode cX3_leavesBench 39 = .ok (.imul, 1) := by decide +kernel
theorem dX3_leavesBench_40 : decode cX3_leavesBench 40 = .ok (.iload_n 3, 1) := by decide +kernel
theorem dX3_leavesBench_41 : decode cX3_leavesBench 41 = .ok (.iadd, 1) := by decide +kernel
theorem dX3_leavesBench_42 : decode cX3_leavesBench 42 = .ok (.iconst 1, 1) := by decide +kernel
theorem dX3_leavesBench_43 : decode cX3_leavesBench 43 = .ok (.iadd, 1) := by decide +kernel
theorem dX3_leavesBench_44 : decode cX3_leavesBench 44 = .ok (.iaload, 1) := by decide +kernel
theorem dX3_leavesBench_45 : decode cX3_leavesBench 45 = .ok (.iastore, 1) := by decide +kernel
theorem dX3_leavesBench_46 : decode cX3_leavesBench 46 = .ok (.iinc 3 1, 3) := by decide +kernel
theorem dX3_leavesBench_49 : decode cX3_leavesBench 49 = .ok (.goto (-37), 3) := by decide +kernel
theorem dX3_leavesBench_52 : decode cX3_leavesBench 52 = .ok (.return_, 1) := by decide +kernel
theorem dX3_sits_0 : decode cX3_sits 0 = .ok (.aload_n 0, 1) := by decide +kernel
theorem dX3_sits_1 : decode cX3_sits 1 = .ok (.getfield 28, 3) := by decide +kernel
theorem dX3_sits_4 : decode cX3_sits 4 = .ok (.iload_n 1, 1) := by decide +kernel
theorem dX3_sits_5 : decode cX3_sits 5 = .ok (.iaload, 1) := by decide +kernel
theorem dX3_sits_6 : decode cX3_sits 6 = .ok (.istore_n 3, 1) := by decide +kernel
theorem dX3_sits_7 : decode cX3_sits 7 = .ok (.iload_n 3, 1) := by decide +kernel
theorem dX3_sits_8 : decode cX3_sits 8 = .ok (.ifCond .le 33, 3) := by decide +kernel
theorem dX3_sits_11 : decode cX3_sits 11 = .ok (.aload_n 0, 1) := by decide +kernel
theorem dX3_sits_12 : decode cX3_sits 12 = .ok (.getfield 25, 3) := by decide +kernel
theorem dX3_sits_15 : decode cX3_sits 15 = .ok (.bipush 8, 2) := by decide +kernel
theorem dX3_sits_17 : decode cX3_sits 17 = .ok (.iload_n 1, 1) := by decide +kernel
theorem dX3_sits_18 : decode cX3_sits 18 = .ok (.imul, 1) := by decide +kernel
theorem dX3_sits_19 : decode cX3_sits 19 = .ok (.iload_n 3, 1) := by decide +kernel
theorem dX3_sits_20 : decode cX3_sits 20 = .ok (.iadd, 1) := by decide +kernel
theorem dX3_sits_21 : decode cX3_sits 21 = .ok (.aload_n 0, 1) := by decide +kernel
theorem dX3_sits_22 : decode cX3_sits 22 = .ok (.getfield 25, 3) := by decide +kernel
theorem dX3_sits_25 : decode cX3_sits 25 = .ok (.bipush 8, 2) := by decide +kernel
theorem dX3_sits_27 : decode cX3_sits 27 = .ok (.iload_n 1, 1) := by decide +kernel
theorem dX3_sits_28 : decode cX3_sits 28 = .ok (.imul, 1) := by decide +kernel
theorem dX3_sits_29 : decode cX3_sits 29 = .ok (.iload_n 3, 1) := by decide +kernel
theorem dX3_sits_30 : decode cX3_sits 30 = .ok (.iadd, 1) := by decide +kernel
theorem dX3_sits_31 : decode cX3_sits 31 = .ok (.iconst 1, 1) := by decide +kernel
theorem dX3_sits_32 : decode cX3_sits 32 = .ok (.isub, 1) := by decide +kernel
theorem dX3_sits_33 : decode cX3_sits 33 = .ok (.iaload, 1) := by decide +kernel
theorem dX3_sits_34 : decode cX3_sits 34 = .ok (.iastore, 1) := by decide +kernel
theorem dX3_sits_35 : decode cX3_sits 35 = .ok (.iinc 3 (-1), 3) := by decide +kernel
theorem dX3_sits_38 : decode cX3_sits 38 = .ok (.goto (-31), 3) := by decide +kernel
theorem dX3_sits_41 : decode cX3_sits 41 = .ok (.aload_n 0, 1) := by decide +kernel
theorem dX3_sits_42 : decode cX3_sits 42 = .ok (.getfield 25, 3) := by decide +kernel
theorem dX3_sits_45 : decode cX3_sits 45 = .ok (.bipush 8, 2) := by decide +kernel
theorem dX3_sits_47 : decode cX3_sits 47 = .ok (.iload_n 1, 1) := by decide +kernel
theorem dX3_sits_48 : decode cX3_sits 48 = .ok (.imul, 1) := by decide +kernel
theorem dX3_sits_49 : decode cX3_sits 49 = .ok (.iload_n 2, 1) := by decide +kernel
theorem dX3_sits_50 : decode cX3_sits 50 = .ok (.iastore, 1) := by decide +kernel
theorem dX3_sits_51 : decode cX3_sits 51 = .ok (.aload_n 0, 1) := by decide +kernel
theorem dX3_sits_52 : decode cX3_sits 52 = .ok (.getfield 28, 3) := by decide +kernel
theorem dX3_sits_55 : decode cX3_sits 55 = .ok (.iload_n 1, 1) := by decide +kernel
theorem dX3_sits_56 : decode cX3_sits 56 = .ok (.dup2, 1) := by decide +kernel
theorem dX3_sits_57 : decode cX3_sits 57 = .ok (.iaload, 1) := by decide +kernel
theorem dX3_sits_58 : decode cX3_sits 58 = .ok (.iconst 1, 1) := by decide +kernel
theorem dX3_sits_59 : decode cX3_sits 59 = .ok (.iadd, 1) := by decide +kernel
theorem dX3_sits_60 : decode cX3_sits 60 = .ok (.iastore, 1) := by decide +kernel
theorem dX3_sits_61 : decode cX3_sits 61 = .ok (.return_, 1) := by decide +kernel
set_option maxRecDepth 20000 in
theorem ggX3_throwsOut_X3_goesHome : GoodIn wsX3_throwsOut wsX3_goesHome := goodIn_r _ [9, 10, 11, 12, 13, 8, 14, 15, 16, 17, 18, 23, 24, 25, 26, 27, 28, 29, 30, 31, 32, 33, 34, 35, 36, 37, 38] (by decide +kernel) (by decide +kernel)
set_option maxRecDepth 20000 in
theorem gX3_throwsOut_X3_goesHome : GoodIn wsX3_throwsOut (wsV RX3 55 RX3 yX3_goesHome wsX3_goesHome) := goodIn_app (goodIn_of _ (by decide +kernel)) ggX3_throwsOut_X3_goesHome
set_option maxRecDepth 20000 in
theorem ggX3_throwsOut_X3_sits : GoodIn wsX3_throwsOut wsX3_sits := goodIn_r _ [22, 3, 4, 23, 24, 25, 26, 27, 28, 29, 30, 31, 32, 33, 34, 35, 36, 37, 38] (by decide +kernel) (by decide +kernel)
set_option maxRecDepth 20000 in
theorem gX3_throwsOut_X3_sits : GoodIn wsX3_throwsOut (wsV RX3 58 RX3 yX3_sits wsX3_sits) := goodIn_app (goodIn_of _ (by decide +kernel)) ggX3_throwsOut_X3_sits
theorem dX3_throwsOut_0 : decode cX3_throwsOut 0 = .ok (.aload_n 0, 1) := by decide +kernel
theorem dX3_throwsOut_1 : decode cX3_throwsOut 1 = .ok (.getfield 22, 3) := by decide +kernel
theorem dX3_throwsOut_4 : decode cX3_throwsOut 4 = .ok (.bipush 16, 2) := by decide +kernel
theorem dX3_throwsOut_6 : decode cX3_throwsOut 6 = .ok (.iload_n 1, 1) := by decide +kernel
theorem dX3_throwsOut_7 : decode cX3_throwsOut 7 = .ok (.imul, 1) := by decide +kernel
theorem dX3_throwsOut_8 : decode cX3_throwsOut 8 = .ok (.iload_n 2, 1) := by decide +kernel
theorem dX3_throwsOut_9 : decode cX3_throwsOut 9 = .ok (.iadd, 1) := by decide +kernel
theorem dX3_throwsOut_10 : decode cX3_throwsOut 10 = .ok (.iaload, 1) := by decide +kernel
theorem dX3_throwsOut_11 : decode cX3_throwsOut 11 = .ok (.istore_n 3, 1) := by decide +kernel
theorem dX3_throwsOut_12 : decode cX3_throwsOut 12 = .ok (.aload_n 0, 1) := by decide +kernel
theorem dX3_throwsOut_13 : decode cX3_throwsOut 13 = .ok (.getfield 22, 3) := by decide +kernel
theorem dX3_throwsOut_16 : decode cX3_throwsOut 16 = .ok (.bipush 16, 2) := by decide +kernel
theorem dX3_throwsOut_18 : decode cX3_throwsOut 18 = .ok (.iload_n 1, 1) := by decide +kernel
theorem dX3_throwsOut_19 : decode cX3_throwsOut 19 = .ok (.imul, 1) := by decide +kernel
theorem dX3_throwsOut_20 : decode cX3_throwsOut 20 = .ok (.iload_n 2, 1) := by decide +kernel
theorem dX3_throwsOut_21 : decode cX3_throwsOut 21 = .ok (.iadd, 1) := by decide +kernel
theorem dX3_throwsOut_22 : decode cX3_throwsOut 22 = .ok (.iconst (-1), 1) := by decide +kernel
theorem dX3_throwsOut_23 : decode cX3_throwsOut 23 = .ok (.iastore, 1) := by decide +kernel
theorem dX3_throwsOut_24 : decode cX3_throwsOut 24 = .ok (.aload_n 0, 1) := by decide +kernel
theorem dX3_throwsOut_25 : decode cX3_throwsOut 25 = .ok (.getfield 19, 3) := by decide +kernel
theorem dX3_throwsOut_28 : decode cX3_throwsOut 28 = .ok (.iload_n 1, 1) := by decide +kernel
theorem dX3_throwsOut_29 : decode cX3_throwsOut 29 = .ok (.iaload, 1) := by decide +kernel
theorem dX3_throwsOut_30 : decode cX3_throwsOut 30 = .ok (.ifCond .ne 10, 3) := by decide +kernel
theorem dX3_throwsOut_33 : decode cX3_throwsOut 33 = .ok (.aload_n 0, 1) := by decide +kernel
theorem dX3_throwsOut_34 : decode cX3_throwsOut 34 = .ok (.iload_n 1, 1) := by decide +kernel
theorem dX3_throwsOut_35 : decode cX3_throwsOut 35 = .ok (.iload_n 3, 1) := by decide +kernel
theorem dX3_throwsOut_36 : decode cX3_throwsOut 36 = .ok (.invokevirtual 55, 3) := by decide +kernel
theorem dX3_throwsOut_39 : decode cX3_throwsOut 39 = .ok (.return_, 1) := by decide +kernel
theorem dX3_throwsOut_40 : decode cX3_throwsOut 40 = .ok (.aload_n 0, 1) := by decide +kernel
theorem dX3_throwsOut_41 : decode cX3_throwsOut 41 = .ok (.getfield 28, 3) := by decide +kernel
theorem dX3_throwsOut_44 : decode cX3_throwsOut 44 = .ok (.iload_n 1, 1) := by decide +kernel
theorem dX3_throwsOut_45 : decode cX3_throwsOut 45 = .ok (.iaload, 1) := by decide +kernel
theorem dX3_throwsOut_46 : decode cX3_throwsOut 46 = .ok (.aload_n 0, 1) := by decide +kernel
theorem dX3_throwsOut_47 : decode cX3_throwsOut 47 = .ok (.getfield 19, 3) := by decide +kernel
theorem dX3_throwsOut_50 : decode cX3_throwsOut 50 = .ok (.iload_n 1, 1) := by decide +kernel
theorem dX3_throwsOut_51 : decode cX3_throwsOut 51 = .ok (.iaload, 1) := by decide +kernel
theorem dX3_throwsOut_52 : decode cX3_throwsOut 52 = .ok (.if_icmp .ne 40, 3) := by decide +kernel
theorem dX3_throwsOut_55 : decode cX3_throwsOut 55 = .ok (.aload_n 0, 1) := by decide +kernel
theorem dX3_throwsOut_56 : decode cX3_throwsOut 56 = .ok (.getfield 25, 3) := by decide +kernel
theorem dX3_throwsOut_59 : decode cX3_throwsOut 59 = .ok (.bipush 8, 2) := by decide +kernel
theorem dX3_throwsOut_61 : decode cX3_throwsOut 61 = .ok (.iload_n 1, 1) := by decide +kernel
theorem dX3_throwsOut_62 : decode cX3_throwsOut 62 = .ok (.imul, 1) := by decide +kernel
theorem dX3_throwsOut_63 : decode cX3_throwsOut 63 = .ok (.aload_n 0, 1) := by decide +kernel
theorem dX3_throwsOut_64 : decode cX3_throwsOut 64 = .ok (.getfield 28, 3) := by decide +kernel
theorem dX3_throwsOut_67 : decode cX3_throwsOut 67 = .ok (.iload_n 1, 1) := by decide +kernel
theorem dX3_throwsOut_68 : decode cX3_throwsOut 68 = .ok (.iaload, 1) := by decide +kernel
theorem dX3_throwsOut_69 : decode cX3_throwsOut 69 = .ok (.iadd, 1) := by decide +kernel
theorem dX3_throwsOut_70 : decode cX3_throwsOut 70 = .ok (.iconst 1, 1) := by decide +kernel
theorem dX3_throwsOut_71 : decode cX3_throwsOut 71 = .ok (.isub, 1) := by decide +kernel
theorem dX3_throwsOut_72 : decode cX3_throwsOut 72 = .ok (.iaload, 1) := by decide +kernel
theorem dX3_throwsOut_73 : decode cX3_throwsOut 73 = .ok (.istore 4, 2) := by decide +kernel
theorem dX3_throwsOut_75 : decode cX3_throwsOut 75 = .ok (.aload_n 0, 1) := by decide +kernel
theorem dX3_throwsOut_76 : decode cX3_throwsOut 76 = .ok (.getfield 28, 3) := by decide +kernel
theorem dX3_throwsOut_79 : decode cX3_throwsOut 79 = .ok (.iload_n 1, 1) := by decide +kernel
theorem dX3_throwsOut_80 : decode cX3_throwsOut 80 = .ok (.dup2, 1) := by decide +kernel
theorem dX3_throwsOut_81 : decode cX3_throwsOut 81 = .ok (.iaload, 1) := by decide +kernel
theorem dX3_throwsOut_82 : decode cX3_throwsOut 82 = .ok (.iconst 1, 1) := by decide +kernel
theorem dX3_throwsOut_83 : decode cX3_throwsOut 83 = .ok (.isub, 1) := by decide +kernel
theorem dX3_throwsOut_84 : decode cX3_throwsOut 84 = .ok (.iastore, 1) := by decide +kernel
theorem dX3_throwsOut_85 : decode cX3_throwsOut 85 = .ok (.aload_n 0, 1) := by decide +kernel
theorem dX3_throwsOut_86 : decode cX3_throwsOut 86 = .ok (.iload_n 1, 1) := by decide +kernel
theorem dX3_throwsOut_87 : decode cX3_throwsOut 87 = .ok (.iload 4, 2) := by decide +kernel
theorem dX3_throwsOut_89 : decode cX3_throwsOut 89 = .ok (.invokevirtual 55, 3) := by decide +kernel
theorem dX3_throwsOut_92 : decode cX3_throwsOut 92 = .ok (.aload_n 0, 1) := by decide +kernel
theorem dX3_throwsOut_93 : decode cX3_throwsOut 93 = .ok (.iload_n 1, 1) := by decide +kernel
theorem dX3_throwsOut_94 : decode cX3_throwsOut 94 = .ok (.iload_n 3, 1) := by decide +kernel
theorem dX3_throwsOut_95 : decode cX3_throwsOut 95 = .ok (.invokevirtual 58, 3) := by decide +kernel
theorem dX3_throwsOut_98 : decode cX3_throwsOut 98 = .ok (.return_, 1) := by decide +kernel
set_option maxRecDepth 20000 in
theorem ggX3_access_X3_seat : GoodIn wsX3_access wsX3_seat := goodIn_r _ [8, 9, 10, 36, 37, 38, 39, 40, 41, 42, 43, 44, 45, 46, 47, 48, 49, 50, 51] (by decide +kernel) (by decide +kernel)
set_option maxRecDepth 20000 in
theorem gX3_access_X3_seat : GoodIn wsX3_access (wsV RX3 61 RX3 yX3_seat wsX3_seat) := goodIn_app (goodIn_of _ (by decide +kernel)) ggX3_access_X3_seat
set_option maxRecDepth 20000 in
theorem ggX3_access_X3_leavesBench : GoodIn wsX3_access wsX3_leavesBench := goodIn_r _ [14, 9, 10, 36, 37, 38, 39, 40, 41, 42, 43, 44, 45, 46, 47, 48, 49, 50, 51] (by decide +kernel) (by decide +kernel)
set_option maxRecDepth 20000 in
theorem gX3_access_X3_leavesBench : GoodIn wsX3_access (wsV RX3 65 RX3 yX3_leavesBench wsX3_leavesBench) := goodIn_app (goodIn_of _ (by decide +kernel)) ggX3_access_X3_leavesBench
set_option maxRecDepth 20000 in
theorem ggX3_access_X3_sits : GoodIn wsX3_access wsX3_sits := goodIn_r _ [18, 9, 10, 36, 37, 38, 39, 40, 41, 42, 43, 44, 45, 46, 47, 48, 49, 50, 51] (by decide +kernel) (by decide +kernel)
set_option maxRecDepth 20000 in
theorem gX3_access_X3_sits : GoodIn wsX3_access (wsV RX3 58 RX3 yX3_sits wsX3_sits) := goodIn_app (goodIn_of _ (by decide +kernel)) ggX3_access_X3_sits
set_option maxRecDepth 20000 in
theorem ggX3_access_X3_throwsOut : GoodIn wsX3_access wsX3_throwsOut := goodIn_r _ [22, 2, 23, 9, 10, 24, 25, 26, 7, 27, 28, 29, 30, 31, 32, 3, 33, 34, 35, 15, 16, 17, 18, 36, 37, 38, 39, 40, 41, 42, 43, 44, 45, 46, 47, 48, 49, 50, 51] (by decide +kernel) (by decide +kernel)
set_option maxRecDepth 20000 in
theorem gX3_access_X3_throwsOut : GoodIn wsX3_access (wsV RX3 68 RX3 yX3_throwsOut wsX3_throwsOut) := goodIn_app (goodIn_of _ (by decide +kernel)) ggX3_access_X3_throwsOut
theorem dX3_access_0 : decode cX3_access 0 = .ok (.iload_n 2, 1) := by decide +kernel
theorem dX3_access_1 : decode cX3_access 1 = .ok (.aload_n 0, 1) := by decide +kernel
theorem dX3_access_2 : decode cX3_access 2 = .ok (.getfield 16, 3) := by decide +kernel
theorem dX3_access_5 : decode cX3_access 5 = .ok (.iload_n 1, 1) := by decide +kernel
theorem dX3_access_6 : decode cX3_access 6 = .ok (.iaload, 1) := by decide +kernel
theorem dX3_access_7 : decode cX3_access 7 = .ok (.irem, 1) := by decide +kernel
theorem dX3_access_8 : decode cX3_access 8 = .ok (.istore_n 3, 1) := by decide +kernel
theorem dX3_access_9 : decode cX3_access 9 = .ok (.aload_n 0, 1) := by decide +kernel
theorem dX3_access_10 : decode cX3_access 10 = .ok (.getfield 22, 3) := by decide +kernel
theorem dX3_access_13 : decode cX3_access 13 = .ok (.bipush 16, 2) := by decide +kernel
theorem dX3_access_15 : decode cX3_access 15 = .ok (.iload_n 1, 1) := by decide +kernel
theorem dX3_access_16 : decode cX3_access 16 = .ok (.imul, 1) := by decide +kernel
theorem dX3_access_17 : decode cX3_access 17 = .ok (.iload_n 3, 1) := by decide +kernel
theorem dX3_access_18 : decode cX3_access 18 = .ok (.iadd, 1) := by decide +kernel
theorem dX3_access_19 : decode cX3_access 19 = .ok (.iaload, 1) := by decide +kernel
theorem dX3_access_20 : decode cX3_access 20 = .ok (.istore 4, 2) := by decide +kernel
theorem dX3_access_22 : decode cX3_access 22 = .ok (.aload_n 0, 1) := by decide +kernel
theorem dX3_access_23 : decode cX3_access 23 = .ok (.iload_n 1, 1) := by decide +kernel
theorem dX3_access_24 : decode cX3_access 24 = .ok (.iload_n 2, 1) := by decide +kernel
theorem dX3_access_25 : decode cX3_access 25 = .ok (.invokevirtual 61, 3) := by decide +kernel
theorem dX3_access_28 : decode cX3_access 28 = .ok (.istore 5, 2) := by decide +kernel
theorem dX3_access_30 : decode cX3_access 30 = .ok (.iload 4, 2) := by decide +kernel
theorem dX3_access_32 : decode cX3_access 32 = .ok (.iload_n 2, 1) := by decide +kernel
theorem dX3_access_33 : decode cX3_access 33 = .ok (.if_icmp .ne 15, 3) := by decide +kernel
theorem dX3_access_36 : decode cX3_access 36 = .ok (.aload_n 0, 1) := by decide +kernel
theorem dX3_access_37 : decode cX3_access 37 = .ok (.getfield 34, 3) := by decide +kernel
theorem dX3_access_40 : decode cX3_access 40 = .ok (.iload_n 1, 1) := by decide +kernel
theorem dX3_access_41 : decode cX3_access 41 = .ok (.dup2, 1) := by decide +kernel
theorem dX3_access_42 : decode cX3_access 42 = .ok (.iaload, 1) := by decide +kernel
theorem dX3_access_43 : decode cX3_access 43 = .ok (.iconst 1, 1) := by decide +kernel
theorem dX3_access_44 : decode cX3_access 44 = .ok (.iadd, 1) := by decide +kernel
theorem dX3_access_45 : decode cX3_access 45 = .ok (.iastore, 1) := by decide +kernel
theorem dX3_access_46 : decode cX3_access 46 = .ok (.iconst 0, 1) := by decide +kernel
theorem dX3_access_47 : decode cX3_access 47 = .ok (.ireturn, 1) := by decide +kernel
theorem dX3_access_48 : decode cX3_access 48 = .ok (.iload 5, 2) := by decide +kernel
theorem dX3_access_50 : decode cX3_access 50 = .ok (.ifCond .lt 35, 3) := by decide +kernel
theorem dX3_access_53 : decode cX3_access 53 = .ok (.aload_n 0, 1) := by decide +kernel
theorem dX3_access_54 : decode cX3_access 54 = .ok (.getfield 34, 3) := by decide +kernel
theorem dX3_access_57 : decode cX3_access 57 = .ok (.iload_n 1, 1) := by decide +kernel
theorem dX3_access_58 : decode cX3_access 58 = .ok (.dup2, 1) := by decide +kernel
theorem dX3_access_59 : decode cX3_access 59 = .ok (.iaload, 1) := by decide +kernel
theorem dX3_access_60 : decode cX3_access 60 = .ok (.iconst 3, 1) := by decide +kernel
theorem dX3_access_61 : decode cX3_access 61 = .ok (.iadd, 1) := by decide +kernel
theorem dX3_access_62 : decode cX3_access 62 = .ok (.iastore, 1) := by decide +kernel
theorem dX3_access_63 : decode cX3_access 63 = .ok (.aload_n 0, 1) := by decide +kernel
theorem dX3_access_64 : decode cX3_access 64 = .ok (.iload_n 1, 1) := by decide +kernel
theorem dX3_access_65 : decode cX3_access 65 = .ok (.iload 5, 2) := by decide +kernel
theorem dX3_access_67 : decode cX3_access 67 = .ok (.invokevirtual 65, 3) := by decide +kernel
theorem dX3_access_70 : decode cX3_access 70 = .ok (.iload 4, 2) := by decide +kernel
theorem dX3_access_72 : decode cX3_access 72 = .ok (.ifCond .lt 35, 3) := by decide +kernel
theorem dX3_access_75 : decode cX3_access 75 = .ok (.aload_n 0, 1) := by decide +kernel
theorem dX3_access_76 : decode cX3_access 76 = .ok (.iload_n 1, 1) := by decide +kernel
theorem dX3_access_77 : decode cX3_access 77 = .ok (.iload 4, 2) := by decide +kernel
theorem dX3_access_79 : decode cX3_access 79 = .ok (.invokevirtual 58, 3) := by decide +kernel
theorem dX3_access_82 : decode cX3_access 82 = .ok (.goto 25, 3) := by decide +kernel
theorem dX3_access_85 : decode cX3_access 85 = .ok (.aload_n 0, 1) := by decide +kernel
theorem dX3_access_86 : decode cX3_access 86 = .ok (.getfield 34, 3) := by decide +kernel
theorem dX3_access_89 : decode cX3_access 89 = .ok (.iload_n 1, 1) := by decide +kernel
theorem dX3_access_90 : decode cX3_access 90 = .ok (.dup2, 1) := by decide +kernel
theorem dX3_access_91 : decode cX3_access 91 = .ok (.iaload, 1) := by decide +kernel
theorem dX3_access_92 : decode cX3_access 92 = .ok (.bipush 20, 2) := by decide +kernel
theorem dX3_access_94 : decode cX3_access 94 = .ok (.iadd, 1) := by decide +kernel
theorem dX3_access_95 : decode cX3_access 95 = .ok (.iastore, 1) := by decide +kernel
theorem dX3_access_96 : decode cX3_access 96 = .ok (.iload 4, 2) := by decide +kernel
theorem dX3_access_98 : decode cX3_access 98 = .ok (.ifCond .lt 9, 3) := by decide +kernel
theorem dX3_access_101 : decode cX3_access 101 = .ok (.aload_n 0, 1) := by decide +kernel
theorem dX3_access_102 : decode cX3_access 102 = .ok (.iload_n 1, 1) := by decide +kernel
theorem dX3_access_103 : decode cX3_access 103 = .ok (.iload_n 3, 1) := by decide +kernel
theorem dX3_access_104 : decode cX3_access 104 = .ok (.invokevirtual 68, 3) := by decide +kernel
theorem dX3_access_107 : decode cX3_access 107 = .ok (.aload_n 0, 1) := by decide +kernel
theorem dX3_access_108 : decode cX3_access 108 = .ok (.getfield 22, 3) := by decide +kernel
theorem dX3_access_111 : decode cX3_access 111 = .ok (.bipush 16, 2) := by decide +kernel
theorem dX3_access_113 : decode cX3_access 113 = .ok (.iload_n 1, 1) := by decide +kernel
theorem dX3_access_114 : decode cX3_access 114 = .ok (.imul, 1) := by decide +kernel
theorem dX3_access_115 : decode cX3_access 115 = .ok (.iload_n 3, 1) := by decide +kernel
theorem dX3_access_116 : decode cX3_access 116 = .ok (.iadd, 1) := by decide +kernel
theorem dX3_access_117 : decode cX3_access 117 = .ok (.iload_n 2, 1) := by decide +kernel
theorem dX3_access_118 : decode cX3_access 118 = .ok (.iastore, 1) := by decide +kernel
theorem dX3_access_119 : decode cX3_access 119 = .ok (.iload 5, 2) := by decide +kernel
theorem dX3_access_121 : decode cX3_access 121 = .ok (.ifCond .lt 7, 3) := by decide +kernel
theorem dX3_access_124 : decode cX3_access 124 = .ok (.iconst 1, 1) := by decide +kernel
theorem dX3_access_125 : decode cX3_access 125 = .ok (.goto 4, 3) := by decide +kernel
theorem dX3_access_128 : decode cX3_access 128 = .ok (.iconst 2, 1) := by decide +kernel
theorem dX3_access_129 : decode cX3_access 129 = .ok (.ireturn, 1) := by decide +kernel
set_option maxRecDepth 20000 in
theorem ggX3_asks_X3_access : GoodIn wsX3_asks wsX3_access := goodIn_r _ [11, 12, 13, 14, 15, 16, 17, 10, 18, 19, 20, 21, 22, 23, 24, 25, 26, 27, 28, 29, 30, 31, 32, 33, 34, 35, 36, 37, 4, 38, 39, 40, 41, 42, 43, 44, 45, 46, 47, 48, 49, 50, 51, 52, 53, 54, 55, 56, 57, 58, 59, 60] (by decide +kernel) (by decide +kernel)
set_option maxRecDepth 20000 in
theorem gX3_asks_X3_access : GoodIn wsX3_asks (wsV RX3 71 RX3 yX3_access wsX3_access) := goodIn_app (goodIn_of _ (by decide +kernel)) ggX3_asks_X3_access
theorem dX3_asks_0 : decode cX3_asks 0 = .ok (.aload_n 0, 1) := by decide +kernel
theorem dX3_asks_1 : decode cX3_asks 1 = .ok (.iconst 0, 1) := by decide +kernel
theorem dX3_asks_2 : decode cX3_asks 2 = .ok (.iload_n 1, 1) := by decide +kernel
theorem dX3_asks_3 : decode cX3_asks 3 = .ok (.invokevirtual 71, 3) := by decide +kernel
theorem dX3_asks_6 : decode cX3_asks 6 = .ok (.istore_n 3, 1) := by decide +kernel
theorem dX3_asks_7 : decode cX3_asks 7 = .ok (.aload_n 0, 1) := by decide +kernel
theorem dX3_asks_8 : decode cX3_asks 8 = .ok (.dup, 1) := by decide +kernel
theorem dX3_asks_9 : decode cX3_asks 9 = .ok (.getfield 74, 3) := by decide +kernel
theorem dX3_asks_12 : decode cX3_asks 12 = .ok (.iload_n 3, 1) := by decide +kernel
theorem dX3_asks_13 : decode cX3_asks 13 = .ok (.ifCond .ne 7, 3) := by decide +kernel
theorem dX3_asks_16 : decode cX3_asks 16 = .ok (.iconst 1, 1) := by decide +kernel
theorem dX3_asks_17 : decode cX3_asks 17 = .ok (.goto 4, 3) := by decide +kernel
theorem dX3_asks_20 : decode cX3_asks 20 = .ok (.iconst 0, 1) := by decide +kernel
theorem dX3_asks_21 : decode cX3_asks 21 = .ok (.iadd, 1) := by decide +kernel
theorem dX3_asks_22 : decode cX3_asks 22 = .ok (.putfield 74, 3) := by decide +kernel
theorem dX3_asks_25 : decode cX3_asks 25 = .ok (.aload_n 0, 1) := by decide +kernel
theorem dX3_asks_26 : decode cX3_asks 26 = .ok (.dup, 1) := by decide +kernel
theorem dX3_asks_27 : decode cX3_asks 27 = .ok (.getfield 77, 3) := by decide +kernel
theorem dX3_asks_30 : decode cX3_asks 30 = .ok (.iload_n 3, 1) := by decide +kernel
theorem dX3_asks_31 : decode cX3_asks 31 = .ok (.iconst 1, 1) := by decide +kernel
theorem dX3_asks_32 : decode cX3_asks 32 = .ok (.if_icmp .ne 7, 3) := by decide +kernel
theorem dX3_asks_35 : decode cX3_asks 35 = .ok (.iconst 1, 1) := by decide +kernel
theorem dX3_asks_36 : decode cX3_asks 36 = .ok (.goto 4, 3) := by decide +kernel
theorem dX3_asks_39 : decode cX3_asks 39 = .ok (.iconst 0, 1) := by decide +kernel
theorem dX3_asks_40 : decode cX3_asks 40 = .ok (.iadd, 1) := by decide +kernel
theorem dX3_asks_41 : decode cX3_asks 41 = .ok (.putfield 77, 3) := by decide +kernel
theorem dX3_asks_44 : decode cX3_asks 44 = .ok (.aload_n 0, 1) := by decide +kernel
theorem dX3_asks_45 : decode cX3_asks 45 = .ok (.dup, 1) := by decide +kernel
theorem dX3_asks_46 : decode cX3_asks 46 = .ok (.getfield 80, 3) := by decide +kernel
theorem dX3_asks_49 : decode cX3_asks 49 = .ok (.iload_n 3, 1) := by decide +kernel
theorem dX3_asks_50 : decode cX3_asks 50 = .ok (.iconst 2, 1) := by decide +kernel
theorem dX3_asks_51 : decode cX3_asks 51 = .ok (.if_icmp .ne 7, 3) := by decide +kernel
theorem dX3_asks_54 : decode cX3_asks 54 = .ok (.iconst 1, 1) := by decide +kernel
theorem dX3_asks_55 : decode cX3_asks 55 = .ok (.goto 4, 3) := by decide +kernel
theorem dX3_asks_58 : decode cX3_asks 58 = .ok (.iconst 0, 1) := by decide +kernel
theorem dX3_asks_59 : decode cX3_asks 59 = .ok (.iadd, 1) := by decide +kernel
theorem dX3_asks_60 : decode cX3_asks 60 = .ok (.putfield 80, 3) := by decide +kernel
theorem dX3_asks_63 : decode cX3_asks 63 = .ok (.aload_n 0, 1) := by decide +kernel
theorem dX3_asks_64 : decode cX3_asks 64 = .ok (.getfield 31, 3) := by decide +kernel
theorem dX3_asks_67 : decode cX3_asks 67 = .ok (.iload_n 1, 1) := by decide +kernel
theorem dX3_asks_68 : decode cX3_asks 68 = .ok (.iload_n 2, 1) := by decide +kernel
theorem dX3_asks_69 : decode cX3_asks 69 = .ok (.ifCond .eq 7, 3) := by decide +kernel
theorem dX3_asks_72 : decode cX3_asks 72 = .ok (.iconst 1, 1) := by decide +kernel
theorem dX3_asks_73 : decode cX3_asks 73 = .ok (.goto 9, 3) := by decide +kernel
theorem dX3_asks_76 : decode cX3_asks 76 = .ok (.aload_n 0, 1) := by decide +kernel
theorem dX3_asks_77 : decode cX3_asks 77 = .ok (.getfield 31, 3) := by decide +kernel
theorem dX3_asks_80 : decode cX3_asks 80 = .ok (.iload_n 1, 1) := by decide +kernel
theorem dX3_asks_81 : decode cX3_asks 81 = .ok (.iaload, 1) := by decide +kernel
theorem dX3_asks_82 : decode cX3_asks 82 = .ok (.iastore, 1) := by decide +kernel
theorem dX3_asks_83 : decode cX3_asks 83 = .ok (.aload_n 0, 1) := by decide +kernel
theorem dX3_asks_84 : decode cX3_asks 84 = .ok (.getfield 83, 3) := by decide +kernel
theorem dX3_asks_87 : decode cX3_asks 87 = .ok (.sipush 150, 3) := by decide +kernel
theorem dX3_asks_90 : decode cX3_asks 90 = .ok (.if_icmp .ne 46, 3) := by decide +kernel
theorem dX3_asks_93 : decode cX3_asks 93 = .ok (.iconst 1, 1) := by decide +kernel
theorem dX3_asks_94 : decode cX3_asks 94 = .ok (.istore 4, 2) := by decide +kernel
theorem dX3_asks_96 : decode cX3_asks 96 = .ok (.iload 4, 2) := by decide +kernel
theorem dX3_asks_98 : decode cX3_asks 98 = .ok (.sipush 150, 3) := by decide +kernel
theorem dX3_asks_101 : decode cX3_asks 101 = .ok (.if_icmp .ge 25, 3) := by decide +kernel
theorem dX3_asks_104 : decode cX3_asks 104 = .ok (.aload_n 0, 1) := by decide +kernel
theorem dX3_asks_105 : decode cX3_asks 105 = .ok (.getfield 37, 3) := by decide +kernel
theorem dX3_asks_108 : decode cX3_asks 108 = .ok (.iload 4, 2) := by decide +kernel
theorem dX3_asks_110 : decode cX3_asks 110 = .ok (.iconst 1, 1) := by decide +kernel
theorem dX3_asks_111 : decode cX3_asks 111 = .ok (.isub, 1) := by decide +kernel
theorem dX3_asks_112 : decode cX3_asks 112 = .ok (.aload_n 0, 1) := by decide +kernel
theorem dX3_asks_113 : decode cX3_asks 113 = .ok (.getfield 37, 3) := by decide +kernel
theorem dX3_asks_116 : decode cX3_asks 116 = .ok (.iload 4, 2) := by decide +kernel
theorem dX3_asks_118 : decode cX3_asks 118 = .ok (.iaload, 1) := by decide +kernel
theorem dX3_asks_119 : decode cX3_asks 119 = .ok (.iastore, 1) := by decide +kernel
theorem dX3_asks_120 : decode cX3_asks 120 = .ok (.iinc 4 1, 3) := by decide +kernel
theorem dX3_asks_123 : decode cX3_asks 123 = .ok (.goto (-27), 3) := by decide +kernel
theorem dX3_asks_126 : decode cX3_asks 126 = .ok (.aload_n 0, 1) := by decide +kernel
theorem dX3_asks_127 : decode cX3_asks 127 = .ok (.dup, 1) := by decide +kernel
theorem dX3_asks_128 : decode cX3_asks 128 = .ok (.getfield 83, 3) := by decide +kernel
theorem dX3_asks_131 : decode cX3_asks 131 = .ok (.iconst 1, 1) := by decide +kernel
theorem dX3_asks_132 : decode cX3_asks 132 = .ok (.isub, 1) := by decide +kernel
theorem dX3_asks_133 : decode cX3_asks 133 = .ok (.putfield 83, 3) := by decide +kernel
theorem dX3_asks_136 : decode cX3_asks 136 = .ok (.aload_n 0, 1) := by decide +kernel
theorem dX3_asks_137 : decode cX3_asks 137 = .ok (.getfield 37, 3) := by decide +kernel
theorem dX3_asks_140 : decode cX3_asks 140 = .ok (.aload_n 0, 1) := by decide +kernel
theorem dX3_asks_141 : decode cX3_asks 141 = .ok (.getfield 83, 3) := by decide +kernel
theorem dX3_asks_144 : decode cX3_asks 144 = .ok (.iconst 2, 1) := by decide +kernel
theorem dX3_asks_145 : decode cX3_asks 145 = .ok (.iload_n 1, 1) := by decide +kernel
theorem dX3_asks_146 : decode cX3_asks 146 = .ok (.imul, 1) := by decide +kernel
theorem dX3_asks_147 : decode cX3_asks 147 = .ok (.iload_n 2, 1) := by decide +kernel
theorem dX3_asks_148 : decode cX3_asks 148 = .ok (.ifCond .eq 7, 3) := by decide +kernel
theorem dX3_asks_151 : decode cX3_asks 151 = .ok (.iconst 1, 1) := by decide +kernel
theorem dX3_asks_152 : decode cX3_asks 152 = .ok (.goto 4, 3) := by decide +kernel
theorem dX3_asks_155 : decode cX3_asks 155 = .ok (.iconst 0, 1) := by decide +kernel
theorem dX3_asks_156 : decode cX3_asks 156 = .ok (.iadd, 1) := by decide +kernel
theorem dX3_asks_157 : decode cX3_asks 157 = .ok (.iastore, 1) := by decide +kernel
theorem dX3_asks_158 : decode cX3_asks 158 = .ok (.aload_n 0, 1) := by decide +kernel
theorem dX3_asks_159 : decode cX3_asks 159 = .ok (.dup, 1) := by decide +kernel
theorem dX3_asks_160 : decode cX3_asks 160 = .ok (.getfield 83, 3) := by decide +kernel
theorem dX3_asks_163 : decode cX3_asks 163 = .ok (.iconst 1, 1) := by decide +kernel
theorem dX3_asks_164 : decode cX3_asks 164 = .ok (.iadd, 1) := by decide +kernel
theorem dX3_asks_165 : decode cX3_asks 165 = .ok (.putfield 83, 3) := by decide +kernel
theorem dX3_asks_168 : decode cX3_asks 168 = .ok (.return_, 1) := by decide +kernel
set_option maxRecDepth 20000 in
theorem ggX3_read_X3_isWord : GoodIn wsX3_read wsX3_isWord := goodIn_r _ [6] (by decide +kernel) (by decide +kernel)
set_option maxRecDepth 20000 in
theorem gX3_read_X3_isWord : GoodIn wsX3_read (va_wsS RX3 86 yX3_isWord wsX3_isWord) := goodIn_app (goodIn_of _ (by decide +kernel)) ggX3_read_X3_isWord
set_option maxRecDepth 20000 in
theorem ggX3_read_X3_asks : GoodIn wsX3_read wsX3_asks := goodIn_r _ [10, 11, 12, 13, 14, 15, 16, 17, 18, 19, 5, 20, 21, 22, 23, 24, 25, 26, 27, 28, 29, 30, 31, 32, 33, 34, 35, 36, 37, 38, 39, 40, 41, 42, 43, 44, 45, 46, 47, 48, 49, 50, 51, 2, 52, 53, 54, 55, 56, 57, 58, 59, 60, 61, 62, 63, 64, 65, 66, 67, 68] (by decide +kernel) (by decide +kernel)
set_option maxRecDepth 20000 in
theorem gX3_read_X3_asks : GoodIn wsX3_read (wsV RX3 90 RX3 yX3_asks wsX3_asks) := goodIn_app (goodIn_of _ (by decide +kernel)) ggX3_read_X3_asks
theorem dX3_read_0 : decode cX3_read 0 = .ok (.aload_n 0, 1) := by decide +kernel
theorem dX3_read_1 : decode cX3_read 1 = .ok (.iload_n 1, 1) := by decide +kernel
theorem dX3_read_2 : decode cX3_read 2 = .ok (.invokestatic 86, 3) := by decide +kernel
theorem dX3_read_5 : decode cX3_read 5 = .ok (.ifCond .eq 7, 3) := by decide +kernel
theorem dX3_read_8 : decode cX3_read 8 = .ok (.iconst 0, 1) := by decide +kernel
theorem dX3_read_9 : decode cX3_read 9 = .ok (.goto 4, 3) := by decide +kernel
theorem dX3_read_12 : decode cX3_read 12 = .ok (.iconst 1, 1) := by decide +kernel
theorem dX3_read_13 : decode cX3_read 13 = .ok (.putfield 44, 3) := by decide +kernel
theorem dX3_read_16 : decode cX3_read 16 = .ok (.aload_n 0, 1) := by decide +kernel
theorem dX3_read_17 : decode cX3_read 17 = .ok (.getfield 44, 3) := by decide +kernel
theorem dX3_read_20 : decode cX3_read 20 = .ok (.ifCond .eq 5, 3) := by decide +kernel
theorem dX3_read_23 : decode cX3_read 23 = .ok (.iconst 0, 1) := by decide +kernel
theorem dX3_read_24 : decode cX3_read 24 = .ok (.ireturn, 1) := by decide +kernel
theorem dX3_read_25 : decode cX3_read 25 = .ok (.aload_n 0, 1) := by decide +kernel
theorem dX3_read_26 : decode cX3_read 26 = .ok (.iload_n 1, 1) := by decide +kernel
theorem dX3_read_27 : decode cX3_read 27 = .ok (.iconst 4, 1) := by decide +kernel
theorem dX3_read_28 : decode cX3_read 28 = .ok (.idiv, 1) := by decide +kernel
theorem dX3_read_29 : decode cX3_read 29 = .ok (.iconst 0, 1) := by decide +kernel
theorem dX3_read_30 : decode cX3_read 30 = .ok (.invokevirtual 90, 3) := by decide +kernel
theorem dX3_read_33 : decode cX3_read 33 = .ok (.aload_n 0, 1) := by decide +kernel
theorem dX3_read_34 : decode cX3_read 34 = .ok (.getfield 7, 3) := by decide +kernel
theorem dX3_read_37 : decode cX3_read 37 = .ok (.iload_n 1, 1) := by decide +kernel
theorem dX3_read_38 : decode cX3_read 38 = .ok (.iaload, 1) := by decide +kernel
theorem dX3_read_39 : decode cX3_read 39 = .ok (.ireturn, 1) := by decide +kernel
set_option maxRecDepth 20000 in
theorem ggX3_write_X3_isWord : GoodIn wsX3_write wsX3_isWord := goodIn_r _ [6] (by decide +kernel) (by decide +kernel)
set_option maxRecDepth 20000 in
theorem gX3_write_X3_isWord : GoodIn wsX3_write (va_wsS RX3 86 yX3_isWord wsX3_isWord) := goodIn_app (goodIn_of _ (by decide +kernel)) ggX3_write_X3_isWord
set_option maxRecDepth 20000 in
theorem ggX3_write_X3_asks : GoodIn wsX3_write wsX3_asks := goodIn_r _ [10, 11, 12, 13, 14, 15, 16, 17, 18, 19, 5, 20, 21, 22, 23, 24, 25, 26, 27, 28, 29, 30, 31, 32, 33, 34, 35, 36, 37, 38, 39, 40, 41, 42, 43, 44, 45, 46, 47, 48, 49, 50, 51, 2, 52, 53, 54, 55, 56, 57, 58, 59, 60, 61, 62, 63, 64, 65, 66, 67, 68] (by decide +kernel) (by decide +kernel)
set_option maxRecDepth 20000 in
theorem gX3_write_X3_asks : GoodIn wsX3_write (wsV RX3 90 RX3 yX3_asks wsX3_asks) := goodIn_app (goodIn_of _ (by decide +kernel)) ggX3_write_X3_asks
theorem dX3_write_0 : decode cX3_write 0 = .ok (.aload_n 0, 1) := by decide +kernel
theorem dX3_write_1 : decode cX3_write 1 = .ok (.iload_n 1, 1) := by decide +kernel
theorem dX3_write_2 : decode cX3_write 2 = .ok (.invokestatic 86, 3) := by decide +kernel
theorem dX3_write_5 : decode cX3_write 5 = .ok (.ifCond .eq 7, 3) := by decide +kernel
theorem dX3_write_8 : decode cX3_write 8 = .ok (.iconst 0, 1) := by decide +kernel
theorem dX3_write_9 : decode cX3_write 9 = .ok (.goto 4, 3) := by decide +kernel
theorem dX3_write_12 : decode cX3_write 12 = .ok (.iconst 1, 1) := by decide +kernel
theorem dX3_write_13 : decode cX3_write 13 = .ok (.putfield 44, 3) := by decide +kernel
theorem dX3_write_16 : decode cX3_write 16 = .ok (.aload_n 0, 1) := by decide +kernel
theorem dX3_write_17 : decode cX3_write 17 = .ok (.getfield 44, 3) := by decide +kernel
theorem dX3_write_20 : decode cX3_write 20 = .ok (.ifCond .eq 5, 3) := by decide +kernel
theorem dX3_write_23 : decode cX3_write 23 = .ok (.iconst 0, 1) := by decide +kernel
theorem dX3_write_24 : decode cX3_write 24 = .ok (.ireturn, 1) := by decide +kernel
theorem dX3_write_25 : decode cX3_write 25 = .ok (.aload_n 0, 1) := by decide +kernel
theorem dX3_write_26 : decode cX3_write 26 = .ok (.iload_n 1, 1) := by decide +kernel
theorem dX3_write_27 : decode cX3_write 27 = .ok (.iconst 4, 1) := by decide +kernel
theorem dX3_write_28 : decode cX3_write 28 = .ok (.idiv, 1) := by decide +kernel
theorem dX3_write_29 : decode cX3_write 29 = .ok (.iconst 1, 1) := by decide +kernel
theorem dX3_write_30 : decode cX3_write 30 = .ok (.invokevirtual 90, 3) := by decide +kernel
theorem dX3_write_33 : decode cX3_write 33 = .ok (.aload_n 0, 1) := by decide +kernel
theorem dX3_write_34 : decode cX3_write 34 = .ok (.getfield 7, 3) := by decide +kernel
theorem dX3_write_37 : decode cX3_write 37 = .ok (.iload_n 1, 1) := by decide +kernel
theorem dX3_write_38 : decode cX3_write 38 = .ok (.iaload, 1) := by decide +kernel
theorem dX3_write_39 : decode cX3_write 39 = .ok (.istore_n 3, 1) := by decide +kernel
theorem dX3_write_40 : decode cX3_write 40 = .ok (.aload_n 0, 1) := by decide +kernel
theorem dX3_write_41 : decode cX3_write 41 = .ok (.getfield 7, 3) := by decide +kernel
theorem dX3_write_44 : decode cX3_write 44 = .ok (.iload_n 1, 1) := by decide +kernel
theorem dX3_write_45 : decode cX3_write 45 = .ok (.iload_n 2, 1) := by decide +kernel
theorem dX3_write_46 : decode cX3_write 46 = .ok (.iastore, 1) := by decide +kernel
theorem dX3_write_47 : decode cX3_write 47 = .ok (.iload_n 3, 1) := by decide +kernel
theorem dX3_write_48 : decode cX3_write 48 = .ok (.ireturn, 1) := by decide +kernel
set_option maxRecDepth 20000 in
theorem ggX3_walk_X3_isWord : GoodIn wsX3_walk wsX3_isWord := goodIn_r _ [6] (by decide +kernel) (by decide +kernel)
set_option maxRecDepth 20000 in
theorem gX3_walk_X3_isWord : GoodIn wsX3_walk (va_wsS RX3 86 yX3_isWord wsX3_isWord) := goodIn_app (goodIn_of _ (by decide +kernel)) ggX3_walk_X3_isWord
set_option maxRecDepth 20000 in
theorem ggX3_walk_X3_asks : GoodIn wsX3_walk wsX3_asks := goodIn_r _ [10, 11, 12, 13, 14, 15, 16, 17, 18, 19, 5, 20, 21, 22, 2, 23, 24, 25, 26, 27, 28, 29, 30, 31, 32, 33, 34, 35, 36, 37, 38, 39, 40, 41, 42, 43, 44, 45, 46, 47, 48, 49, 50, 51, 52, 53, 54, 55, 56, 57, 58, 59, 60, 61, 62, 63, 64, 65, 66, 67, 68] (by decide +kernel) (by decide +kernel)
set_option maxRecDepth 20000 in
theorem gX3_walk_X3_asks : GoodIn wsX3_walk (wsV RX3 90 RX3 yX3_asks wsX3_asks) := goodIn_app (goodIn_of _ (by decide +kernel)) ggX3_walk_X3_asks
theorem dX3_walk_0 : decode cX3_walk 0 = .ok (.aload_n 0, 1) := by decide +kernel
theorem dX3_walk_1 : decode cX3_walk 1 = .ok (.iload_n 1, 1) := by decide +kernel
theorem dX3_walk_2 : decode cX3_walk 2 = .ok (.invokestatic 86, 3) := by decide +kernel
theorem dX3_walk_5 : decode cX3_walk 5 = .ok (.ifCond .ne 7, 3) := by decide +kernel
theorem dX3_walk_8 : decode cX3_walk 8 = .ok (.iconst 1, 1) := by decide +kernel
theorem dX3_walk_9 : decode cX3_walk 9 = .ok (.goto 31, 3) := by decide +kernel
theorem dX3_walk_12 : decode cX3_walk 12 = .ok (.iload_n 2, 1) := by decide +kernel
theorem dX3_walk_13 : decode cX3_walk 13 = .ok (.bipush (-64), 2) := by decide +kernel
theorem dX3_walk_15 : decode cX3_walk 15 = .ok (.if_icmp .lt 20, 3) := by decide +kernel
theorem dX3_walk_18 : decode cX3_walk 18 = .ok (.iload_n 2, 1) := by decide +kernel
theorem dX3_walk_19 : decode cX3_walk 19 = .ok (.bipush 64, 2) := by decide +kernel
theorem dX3_walk_21 : decode cX3_walk 21 = .ok (.if_icmp .gt 14, 3) := by decide +kernel
theorem dX3_walk_24 : decode cX3_walk 24 = .ok (.iload_n 3, 1) := by decide +kernel
theorem dX3_walk_25 : decode cX3_walk 25 = .ok (.iconst 1, 1) := by decide +kernel
theorem dX3_walk_26 : decode cX3_walk 26 = .ok (.if_icmp .lt 9, 3) := by decide +kernel
theorem dX3_walk_29 : decode cX3_walk 29 = .ok (.iload_n 3, 1) := by decide +kernel
theorem dX3_walk_30 : decode cX3_walk 30 = .ok (.bipush 100, 2) := by decide +kernel
theorem dX3_walk_32 : decode cX3_walk 32 = .ok (.if_icmp .le 7, 3) := by decide +kernel
theorem dX3_walk_35 : decode cX3_walk 35 = .ok (.iconst 2, 1) := by decide +kernel
theorem dX3_walk_36 : decode cX3_walk 36 = .ok (.goto 4, 3) := by decide +kernel
theorem dX3_walk_39 : decode cX3_walk 39 = .ok (.iconst 0, 1) := by decide +kernel
theorem dX3_walk_40 : decode cX3_walk 40 = .ok (.putfield 44, 3) := by decide +kernel
theorem dX3_walk_43 : decode cX3_walk 43 = .ok (.aload_n 0, 1) := by decide +kernel
theorem dX3_walk_44 : decode cX3_walk 44 = .ok (.getfield 34, 3) := by decide +kernel
theorem dX3_walk_47 : decode cX3_walk 47 = .ok (.iconst 0, 1) := by decide +kernel
theorem dX3_walk_48 : decode cX3_walk 48 = .ok (.iaload, 1) := by decide +kernel
theorem dX3_walk_49 : decode cX3_walk 49 = .ok (.istore 4, 2) := by decide +kernel
theorem dX3_walk_51 : decode cX3_walk 51 = .ok (.iload_n 1, 1) := by decide +kernel
theorem dX3_walk_52 : decode cX3_walk 52 = .ok (.istore 5, 2) := by decide +kernel
theorem dX3_walk_54 : decode cX3_walk 54 = .ok (.iconst 0, 1) := by decide +kernel
theorem dX3_walk_55 : decode cX3_walk 55 = .ok (.istore 6, 2) := by decide +kernel
theorem dX3_walk_57 : decode cX3_walk 57 = .ok (.iload 6, 2) := by decide +kernel
theorem dX3_walk_59 : decode cX3_walk 59 = .ok (.iload_n 3, 1) := by decide +kernel
theorem dX3_walk_60 : decode cX3_walk 60 = .ok (.if_icmp .ge 39, 3) := by decide +kernel
theorem dX3_walk_63 : decode cX3_walk 63 = .ok (.aload_n 0, 1) := by decide +kernel
theorem dX3_walk_64 : decode cX3_walk 64 = .ok (.getfield 44, 3) := by decide +kernel
theorem dX3_walk_67 : decode cX3_walk 67 = .ok (.ifCond .ne 32, 3) := by decide +kernel
theorem dX3_walk_70 : decode cX3_walk 70 = .ok (.aload_n 0, 1) := by decide +kernel
theorem dX3_walk_71 : decode cX3_walk 71 = .ok (.iload 5, 2) := by decide +kernel
theorem dX3_walk_73 : decode cX3_walk 73 = .ok (.iconst 4, 1) := by decide +kernel
theorem dX3_walk_74 : decode cX3_walk 74 = .ok (.idiv, 1) := by decide +kernel
theorem dX3_walk_75 : decode cX3_walk 75 = .ok (.iconst 0, 1) := by decide +kernel
theorem dX3_walk_76 : decode cX3_walk 76 = .ok (.invokevirtual 90, 3) := by decide +kernel
theorem dX3_walk_79 : decode cX3_walk 79 = .ok (.iload 5, 2) := by decide +kernel
theorem dX3_walk_81 : decode cX3_walk 81 = .ok (.iload_n 2, 1) := by decide +kernel
theorem dX3_walk_82 : decode cX3_walk 82 = .ok (.iadd, 1) := by decide +kernel
theorem dX3_walk_83 : decode cX3_walk 83 = .ok (.sipush 1024, 3) := by decide +kernel
theorem dX3_walk_86 : decode cX3_walk 86 = .ok (.iadd, 1) := by decide +kernel
theorem dX3_walk_87 : decode cX3_walk 87 = .ok (.sipush 1024, 3) := by decide +kernel
theorem dX3_walk_90 : decode cX3_walk 90 = .ok (.irem, 1) := by decide +kernel
theorem dX3_walk_91 : decode cX3_walk 91 = .ok (.istore 5, 2) := by decide +kernel
theorem dX3_walk_93 : decode cX3_walk 93 = .ok (.iinc 6 1, 3) := by decide +kernel
theorem dX3_walk_96 : decode cX3_walk 96 = .ok (.goto (-39), 3) := by decide +kernel
theorem dX3_walk_99 : decode cX3_walk 99 = .ok (.aload_n 0, 1) := by decide +kernel
theorem dX3_walk_100 : decode cX3_walk 100 = .ok (.getfield 34, 3) := by decide +kernel
theorem dX3_walk_103 : decode cX3_walk 103 = .ok (.iconst 0, 1) := by decide +kernel
theorem dX3_walk_104 : decode cX3_walk 104 = .ok (.iaload, 1) := by decide +kernel
theorem dX3_walk_105 : decode cX3_walk 105 = .ok (.iload 4, 2) := by decide +kernel
theorem dX3_walk_107 : decode cX3_walk 107 = .ok (.isub, 1) := by decide +kernel
theorem dX3_walk_108 : decode cX3_walk 108 = .ok (.ireturn, 1) := by decide +kernel
set_option maxRecDepth 20000 in
theorem ggX3_bringsHome_X3_comesHome : GoodIn wsX3_bringsHome wsX3_comesHome := goodIn_r _ [6, 7, 1, 8, 9, 10, 11, 12, 13, 14, 15, 16, 17, 18, 19, 20, 21, 22, 23, 24, 25, 26] (by decide +kernel) (by decide +kernel)
set_option maxRecDepth 20000 in
theorem gX3_bringsHome_X3_comesHome : GoodIn wsX3_bringsHome (wsV RX3 51 RX3 yX3_comesHome wsX3_comesHome) := goodIn_app (goodIn_of _ (by decide +kernel)) ggX3_bringsHome_X3_comesHome
theorem dX3_bringsHome_0 : decode cX3_bringsHome 0 = .ok (.iconst 0, 1) := by decide +kernel
theorem dX3_bringsHome_1 : decode cX3_bringsHome 1 = .ok (.istore_n 1, 1) := by decide +kernel
theorem dX3_bringsHome_2 : decode cX3_bringsHome 2 = .ok (.iconst 0, 1) := by decide +kernel
theorem dX3_bringsHome_3 : decode cX3_bringsHome 3 = .ok (.istore_n 2, 1) := by decide +kernel
theorem dX3_bringsHome_4 : decode cX3_bringsHome 4 = .ok (.iload_n 2, 1) := by decide +kernel
theorem dX3_bringsHome_5 : decode cX3_bringsHome 5 = .ok (.sipush 256, 3) := by decide +kernel
theorem dX3_bringsHome_8 : decode cX3_bringsHome 8 = .ok (.if_icmp .ge 28, 3) := by decide +kernel
theorem dX3_bringsHome_11 : decode cX3_bringsHome 11 = .ok (.aload_n 0, 1) := by decide +kernel
theorem dX3_bringsHome_12 : decode cX3_bringsHome 12 = .ok (.getfield 31, 3) := by decide +kernel
theorem dX3_bringsHome_15 : decode cX3_bringsHome 15 = .ok (.iload_n 2, 1) := by decide +kernel
theorem dX3_bringsHome_16 : decode cX3_bringsHome 16 = .ok (.iaload, 1) := by decide +kernel
theorem dX3_bringsHome_17 : decode cX3_bringsHome 17 = .ok (.iconst 1, 1) := by decide +kernel
theorem dX3_bringsHome_18 : decode cX3_bringsHome 18 = .ok (.if_icmp .ne 12, 3) := by decide +kernel
theorem dX3_bringsHome_21 : decode cX3_bringsHome 21 = .ok (.aload_n 0, 1) := by decide +kernel
theorem dX3_bringsHome_22 : decode cX3_bringsHome 22 = .ok (.iconst 0, 1) := by decide +kernel
theorem dX3_bringsHome_23 : decode cX3_bringsHome 23 = .ok (.iload_n 2, 1) := by decide +kernel
theorem dX3_bringsHome_24 : decode cX3_bringsHome 24 = .ok (.invokevirtual 51, 3) := by decide +kernel
theorem dX3_bringsHome_27 : decode cX3_bringsHome 27 = .ok (.iinc 1 1, 3) := by decide +kernel
theorem dX3_bringsHome_30 : decode cX3_bringsHome 30 = .ok (.iinc 2 1, 3) := by decide +kernel
theorem dX3_bringsHome_33 : decode cX3_bringsHome 33 = .ok (.goto (-29), 3) := by decide +kernel
theorem dX3_bringsHome_36 : decode cX3_bringsHome 36 = .ok (.iload_n 1, 1) := by decide +kernel
theorem dX3_bringsHome_37 : decode cX3_bringsHome 37 = .ok (.ireturn, 1) := by decide +kernel
set_option maxRecDepth 20000 in
theorem ggX3_bringHome_X3_bringsHome : GoodIn wsX3_bringHome wsX3_bringsHome := goodIn_r _ [6, 7, 8, 9, 10, 5, 11, 12, 13, 14, 15, 16, 17, 18, 19, 20, 21, 22, 23, 24, 25, 26, 27, 28, 29, 30, 31] (by decide +kernel) (by decide +kernel)
set_option maxRecDepth 20000 in
theorem gX3_bringHome_X3_bringsHome : GoodIn wsX3_bringHome (wsV RX3 94 RX3 yX3_bringsHome wsX3_bringsHome) := goodIn_app (goodIn_of _ (by decide +kernel)) ggX3_bringHome_X3_bringsHome
theorem dX3_bringHome_0 : decode cX3_bringHome 0 = .ok (.aload_n 0, 1) := by decide +kernel
theorem dX3_bringHome_1 : decode cX3_bringHome 1 = .ok (.iconst 0, 1) := by decide +kernel
theorem dX3_bringHome_2 : decode cX3_bringHome 2 = .ok (.putfield 44, 3) := by decide +kernel
theorem dX3_bringHome_5 : decode cX3_bringHome 5 = .ok (.aload_n 0, 1) := by decide +kernel
theorem dX3_bringHome_6 : decode cX3_bringHome 6 = .ok (.invokevirtual 94, 3) := by decide +kernel
theorem dX3_bringHome_9 : decode cX3_bringHome 9 = .ok (.ireturn, 1) := by decide +kernel
theorem dX3_inCache_0 : decode cX3_inCache 0 = .ok (.iconst 0, 1) := by decide +kernel
theorem dX3_inCache_1 : decode cX3_inCache 1 = .ok (.istore_n 1, 1) := by decide +kernel
theorem dX3_inCache_2 : decode cX3_inCache 2 = .ok (.iconst 0, 1) := by decide +kernel
theorem dX3_inCache_3 : decode cX3_inCache 3 = .ok (.istore_n 2, 1) := by decide +kernel
theorem dX3_inCache_4 : decode cX3_inCache 4 = .ok (.iload_n 2, 1) := by decide +kernel
theorem dX3_inCache_5 : decode cX3_inCache 5 = .ok (.aload_n 0, 1) := by decide +kernel
theorem dX3_inCache_6 : decode cX3_inCache 6 = .ok (.getfield 16, 3) := by decide +kernel
theorem dX3_inCache_9 : decode cX3_inCache 9 = .ok (.iconst 0, 1) := by decide +kernel
theorem dX3_inCache_10 : decode cX3_inCache 10 = .ok (.iaload, 1) := by decide +kernel
theorem dX3_inCache_11 : decode cX3_inCache 11 = .ok (.if_icmp .ge 26, 3) := by decide +kernel
theorem dX3_inCache_14 : decode cX3_inCache 14 = .ok (.iload_n 1, 1) := by decide +kernel
theorem dX3_inCache_15 : decode cX3_inCache 15 = .ok (.aload_n 0, 1) := by decide +kernel
theorem dX3_inCache_16 : decode cX3_inCache 16 = .ok (.getfield 22, 3) := by decide +kernel
theorem dX3_inCache_19 : decode cX3_inCache 19 = .ok (.iload_n 2, 1) := by decide +kernel
theorem dX3_inCache_20 : decode cX3_inCache 20 = .ok (.iaload, 1) := by decide +kernel
theorem dX3_inCache_21 : decode cX3_inCache 21 = .ok (.ifCond .lt 7, 3) := by decide +kernel
theorem dX3_inCache_24 : decode cX3_inCache 24 = .ok (.iconst 1, 1) := by decide +kernel
theorem dX3_inCache_25 : decode cX3_inCache 25 = .ok (.goto 4, 3) := by decide +kernel
theorem dX3_inCache_28 : decode cX3_inCache 28 = .ok (.iconst 0, 1) := by decide +kernel
theorem dX3_inCache_29 : decode cX3_inCache 29 = .ok (.iadd, 1) := by decide +kernel
theorem dX3_inCache_30 : decode cX3_inCache 30 = .ok (.istore_n 1, 1) := by decide +kernel
theorem dX3_inCache_31 : decode cX3_inCache 31 = .ok (.iinc 2 1, 3) := by decide +kernel
theorem dX3_inCache_34 : decode cX3_inCache 34 = .ok (.goto (-30), 3) := by decide +kernel
theorem dX3_inCache_37 : decode cX3_inCache 37 = .ok (.iload_n 1, 1) := by decide +kernel
theorem dX3_inCache_38 : decode cX3_inCache 38 = .ok (.ireturn, 1) := by decide +kernel
set_option maxRecDepth 20000 in
theorem ggX3_build_X3_isSize : GoodIn wsX3_build wsX3_isSize := goodIn_r _ [8] (by decide +kernel) (by decide +kernel)
set_option maxRecDepth 20000 in
theorem gX3_build_X3_isSize : GoodIn wsX3_build (va_wsS RX3 98 yX3_isSize wsX3_isSize) := goodIn_app (goodIn_of _ (by decide +kernel)) ggX3_build_X3_isSize
set_option maxRecDepth 20000 in
theorem ggX3_build_X3_bringsHome : GoodIn wsX3_build wsX3_bringsHome := goodIn_r _ [12, 13, 14, 15, 16, 7, 17, 18, 19, 20, 21, 31, 32, 33, 34, 35, 36, 37, 38, 39, 40, 41, 42, 43, 44, 45, 46] (by decide +kernel) (by decide +kernel)
set_option maxRecDepth 20000 in
theorem gX3_build_X3_bringsHome : GoodIn wsX3_build (wsV RX3 94 RX3 yX3_bringsHome wsX3_bringsHome) := goodIn_app (goodIn_of _ (by decide +kernel)) ggX3_build_X3_bringsHome
set_option maxRecDepth 20000 in
theorem ggX3_build_X3_inCache : GoodIn wsX3_build wsX3_inCache := goodIn_r _ [25, 3, 26, 31, 32, 33, 34, 35, 36, 37, 38, 39, 40, 41, 42, 43, 44, 45, 46] (by decide +kernel) (by decide +kernel)
set_option maxRecDepth 20000 in
theorem gX3_build_X3_inCache : GoodIn wsX3_build (wsV RX3 102 RX3 yX3_inCache wsX3_inCache) := goodIn_app (goodIn_of _ (by decide +kernel)) ggX3_build_X3_inCache
set_option maxRecDepth 20000 in
theorem ggX3_build_X3_empties : GoodIn wsX3_build wsX3_empties := goodIn_r _ [30, 26, 2, 13, 31, 32, 33, 34, 35, 36, 37, 38, 39, 40, 41, 42, 43, 44, 45, 46] (by decide +kernel) (by decide +kernel)
set_option maxRecDepth 20000 in
theorem gX3_build_X3_empties : GoodIn wsX3_build (wsV RX3 40 RX3 yX3_empties wsX3_empties) := goodIn_app (goodIn_of _ (by decide +kernel)) ggX3_build_X3_empties
theorem dX3_build_0 : decode cX3_build 0 = .ok (.aload_n 0, 1) := by decide +kernel
theorem dX3_build_1 : decode cX3_build 1 = .ok (.iload_n 1, 1) := by decide +kernel
theorem dX3_build_2 : decode cX3_build 2 = .ok (.iload_n 2, 1) := by decide +kernel
theorem dX3_build_3 : decode cX3_build 3 = .ok (.invokestatic 98, 3) := by decide +kernel
theorem dX3_build_6 : decode cX3_build 6 = .ok (.ifCond .eq 7, 3) := by decide +kernel
theorem dX3_build_9 : decode cX3_build 9 = .ok (.iconst 0, 1) := by decide +kernel
theorem dX3_build_10 : decode cX3_build 10 = .ok (.goto 4, 3) := by decide +kernel
theorem dX3_build_13 : decode cX3_build 13 = .ok (.iconst 1, 1) := by decide +kernel
theorem dX3_build_14 : decode cX3_build 14 = .ok (.putfield 44, 3) := by decide +kernel
theorem dX3_build_17 : decode cX3_build 17 = .ok (.aload_n 0, 1) := by decide +kernel
theorem dX3_build_18 : decode cX3_build 18 = .ok (.getfield 44, 3) := by decide +kernel
theorem dX3_build_21 : decode cX3_build 21 = .ok (.ifCond .eq 5, 3) := by decide +kernel
theorem dX3_build_24 : decode cX3_build 24 = .ok (.iconst 0, 1) := by decide +kernel
theorem dX3_build_25 : decode cX3_build 25 = .ok (.ireturn, 1) := by decide +kernel
theorem dX3_build_26 : decode cX3_build 26 = .ok (.aload_n 0, 1) := by decide +kernel
theorem dX3_build_27 : decode cX3_build 27 = .ok (.invokevirtual 94, 3) := by decide +kernel
theorem dX3_build_30 : decode cX3_build 30 = .ok (.istore_n 3, 1) := by decide +kernel
theorem dX3_build_31 : decode cX3_build 31 = .ok (.aload_n 0, 1) := by decide +kernel
theorem dX3_build_32 : decode cX3_build 32 = .ok (.invokevirtual 102, 3) := by decide +kernel
theorem dX3_build_35 : decode cX3_build 35 = .ok (.aload_n 0, 1) := by decide +kernel
theorem dX3_build_36 : decode cX3_build 36 = .ok (.getfield 28, 3) := by decide +kernel
theorem dX3_build_39 : decode cX3_build 39 = .ok (.iconst 0, 1) := by decide +kernel
theorem dX3_build_40 : decode cX3_build 40 = .ok (.iaload, 1) := by decide +kernel
theorem dX3_build_41 : decode cX3_build 41 = .ok (.iadd, 1) := by decide +kernel
theorem dX3_build_42 : decode cX3_build 42 = .ok (.istore 4, 2) := by decide +kernel
theorem dX3_build_44 : decode cX3_build 44 = .ok (.aload_n 0, 1) := by decide +kernel
theorem dX3_build_45 : decode cX3_build 45 = .ok (.iconst 0, 1) := by decide +kernel
theorem dX3_build_46 : decode cX3_build 46 = .ok (.invokevirtual 40, 3) := by decide +kernel
theorem dX3_build_49 : decode cX3_build 49 = .ok (.aload_n 0, 1) := by decide +kernel
theorem dX3_build_50 : decode cX3_build 50 = .ok (.getfield 16, 3) := by decide +kernel
theorem dX3_build_53 : decode cX3_build 53 = .ok (.iconst 0, 1) := by decide +kernel
theorem dX3_build_54 : decode cX3_build 54 = .ok (.iload_n 1, 1) := by decide +kernel
theorem dX3_build_55 : decode cX3_build 55 = .ok (.iastore, 1) := by decide +kernel
theorem dX3_build_56 : decode cX3_build 56 = .ok (.aload_n 0, 1) := by decide +kernel
theorem dX3_build_57 : decode cX3_build 57 = .ok (.getfield 19, 3) := by decide +kernel
theorem dX3_build_60 : decode cX3_build 60 = .ok (.iconst 0, 1) := by decide +kernel
theorem dX3_build_61 : decode cX3_build 61 = .ok (.iload_n 2, 1) := by decide +kernel
theorem dX3_build_62 : decode cX3_build 62 = .ok (.iastore, 1) := by decide +kernel
theorem dX3_build_63 : decode cX3_build 63 = .ok (.iload 4, 2) := by decide +kernel
theorem dX3_build_65 : decode cX3_build 65 = .ok (.ireturn, 1) := by decide +kernel
theorem dX3_isSet_0 : decode cX3_isSet 0 = .ok (.iload_n 1, 1) := by decide +kernel
theorem dX3_isSet_1 : decode cX3_isSet 1 = .ok (.ifCond .lt 17, 3) := by decide +kernel
theorem dX3_isSet_4 : decode cX3_isSet 4 = .ok (.iload_n 1, 1) := by decide +kernel
theorem dX3_isSet_5 : decode cX3_isSet 5 = .ok (.aload_n 0, 1) := by decide +kernel
theorem dX3_isSet_6 : decode cX3_isSet 6 = .ok (.getfield 16, 3) := by decide +kernel
theorem dX3_isSet_9 : decode cX3_isSet 9 = .ok (.iconst 0, 1) := by decide +kernel
theorem dX3_isSet_10 : decode cX3_isSet 10 = .ok (.iaload, 1) := by decide +kernel
theorem dX3_isSet_11 : decode cX3_isSet 11 = .ok (.if_icmp .ge 7, 3) := by decide +kernel
theorem dX3_isSet_14 : decode cX3_isSet 14 = .ok (.iconst 1, 1) := by decide +kernel
theorem dX3_isSet_15 : decode cX3_isSet 15 = .ok (.goto 4, 3) := by decide +kernel
theorem dX3_isSet_18 : decode cX3_isSet 18 = .ok (.iconst 0, 1) := by decide +kernel
theorem dX3_isSet_19 : decode cX3_isSet 19 = .ok (.ireturn, 1) := by decide +kernel
set_option maxRecDepth 20000 in
theorem ggX3_cast_X3_isSet : GoodIn wsX3_cast wsX3_isSet := goodIn_r _ [7, 8, 33, 34, 35, 36, 37, 38, 39, 40, 41, 42, 43, 44, 45, 46, 47, 48] (by decide +kernel) (by decide +kernel)
set_option maxRecDepth 20000 in
theorem gX3_cast_X3_isSet : GoodIn wsX3_cast (wsV RX3 105 RX3 yX3_isSet wsX3_isSet) := goodIn_app (goodIn_of _ (by decide +kernel)) ggX3_cast_X3_isSet
set_option maxRecDepth 20000 in
theorem ggX3_cast_X3_throwsOut : GoodIn wsX3_cast wsX3_throwsOut := goodIn_r _ [12, 1, 13, 14, 15, 16, 17, 18, 6, 19, 20, 21, 22, 23, 24, 25, 26, 27, 28, 29, 30, 31, 32, 33, 34, 35, 36, 37, 38, 39, 40, 41, 42, 43, 44, 45, 46, 47, 48] (by decide +kernel) (by decide +kernel)
set_option maxRecDepth 20000 in
theorem gX3_cast_X3_throwsOut : GoodIn wsX3_cast (wsV RX3 68 RX3 yX3_throwsOut wsX3_throwsOut) := goodIn_app (goodIn_of _ (by decide +kernel)) ggX3_cast_X3_throwsOut
theorem dX3_cast_0 : decode cX3_cast 0 = .ok (.aload_n 0, 1) := by decide +kernel
theorem dX3_cast_1 : decode cX3_cast 1 = .ok (.aload_n 0, 1) := by decide +kernel
theorem dX3_cast_2 : decode cX3_cast 2 = .ok (.iload_n 1, 1) := by decide +kernel
theorem dX3_cast_3 : decode cX3_cast 3 = .ok (.invokevirtual 105, 3) := by decide +kernel
theorem dX3_cast_6 : decode cX3_cast 6 = .ok (.ifCond .ne 7, 3) := by decide +kernel
theorem dX3_cast_9 : decode cX3_cast 9 = .ok (.iconst 1, 1) := by decide +kernel
theorem dX3_cast_10 : decode cX3_cast 10 = .ok (.goto 17, 3) := by decide +kernel
theorem dX3_cast_13 : decode cX3_cast 13 = .ok (.aload_n 0, 1) := by decide +kernel
theorem dX3_cast_14 : decode cX3_cast 14 = .ok (.getfield 22, 3) := by decide +kernel
theorem dX3_cast_17 : decode cX3_cast 17 = .ok (.iload_n 1, 1) := by decide +kernel
theorem dX3_cast_18 : decode cX3_cast 18 = .ok (.iaload, 1) := by decide +kernel
theorem dX3_cast_19 : decode cX3_cast 19 = .ok (.ifCond .ge 7, 3) := by decide +kernel
theorem dX3_cast_22 : decode cX3_cast 22 = .ok (.iconst 2, 1) := by decide +kernel
theorem dX3_cast_23 : decode cX3_cast 23 = .ok (.goto 4, 3) := by decide +kernel
theorem dX3_cast_26 : decode cX3_cast 26 = .ok (.iconst 0, 1) := by decide +kernel
theorem dX3_cast_27 : decode cX3_cast 27 = .ok (.putfield 44, 3) := by decide +kernel
theorem dX3_cast_30 : decode cX3_cast 30 = .ok (.aload_n 0, 1) := by decide +kernel
theorem dX3_cast_31 : decode cX3_cast 31 = .ok (.getfield 44, 3) := by decide +kernel
theorem dX3_cast_34 : decode cX3_cast 34 = .ok (.ifCond .eq 5, 3) := by decide +kernel
theorem dX3_cast_37 : decode cX3_cast 37 = .ok (.iconst 0, 1) := by decide +kernel
theorem dX3_cast_38 : decode cX3_cast 38 = .ok (.ireturn, 1) := by decide +kernel
theorem dX3_cast_39 : decode cX3_cast 39 = .ok (.aload_n 0, 1) := by decide +kernel
theorem dX3_cast_40 : decode cX3_cast 40 = .ok (.getfield 22, 3) := by decide +kernel
theorem dX3_cast_43 : decode cX3_cast 43 = .ok (.iload_n 1, 1) := by decide +kernel
theorem dX3_cast_44 : decode cX3_cast 44 = .ok (.iaload, 1) := by decide +kernel
theorem dX3_cast_45 : decode cX3_cast 45 = .ok (.istore_n 2, 1) := by decide +kernel
theorem dX3_cast_46 : decode cX3_cast 46 = .ok (.aload_n 0, 1) := by decide +kernel
theorem dX3_cast_47 : decode cX3_cast 47 = .ok (.iconst 0, 1) := by decide +kernel
theorem dX3_cast_48 : decode cX3_cast 48 = .ok (.iload_n 1, 1) := by decide +kernel
theorem dX3_cast_49 : decode cX3_cast 49 = .ok (.invokevirtual 68, 3) := by decide +kernel
theorem dX3_cast_52 : decode cX3_cast 52 = .ok (.iload_n 2, 1) := by decide +kernel
theorem dX3_cast_53 : decode cX3_cast 53 = .ok (.ireturn, 1) := by decide +kernel
theorem dX3_sets_0 : decode cX3_sets 0 = .ok (.aload_n 0, 1) := by decide +kernel
theorem dX3_sets_1 : decode cX3_sets 1 = .ok (.iconst 0, 1) := by decide +kernel
theorem dX3_sets_2 : decode cX3_sets 2 = .ok (.putfield 44, 3) := by decide +kernel
theorem dX3_sets_5 : decode cX3_sets 5 = .ok (.aload_n 0, 1) := by decide +kernel
theorem dX3_sets_6 : decode cX3_sets 6 = .ok (.getfield 16, 3) := by decide +kernel
theorem dX3_sets_9 : decode cX3_sets 9 = .ok (.iconst 0, 1) := by decide +kernel
theorem dX3_sets_10 : decode cX3_sets 10 = .ok (.iaload, 1) := by decide +kernel
theorem dX3_sets_11 : decode cX3_sets 11 = .ok (.ireturn, 1) := by decide +kernel
theorem dX3_places_0 : decode cX3_places 0 = .ok (.aload_n 0, 1) := by decide +kernel
theorem dX3_places_1 : decode cX3_places 1 = .ok (.iconst 0, 1) := by decide +kernel
theorem dX3_places_2 : decode cX3_places 2 = .ok (.putfield 44, 3) := by decide +kernel
theorem dX3_places_5 : decode cX3_places 5 = .ok (.aload_n 0, 1) := by decide +kernel
theorem dX3_places_6 : decode cX3_places 6 = .ok (.getfield 19, 3) := by decide +kernel
theorem dX3_places_9 : decode cX3_places 9 = .ok (.iconst 0, 1) := by decide +kernel
theorem dX3_places_10 : decode cX3_places 10 = .ok (.iaload, 1) := by decide +kernel
theorem dX3_places_11 : decode cX3_places 11 = .ok (.ireturn, 1) := by decide +kernel
set_option maxRecDepth 20000 in
theorem ggX3_lineIn_X3_isSet : GoodIn wsX3_lineIn wsX3_isSet := goodIn_r _ [7, 8, 9, 10, 11, 12, 13, 14, 15, 16, 17, 18, 19, 20, 21, 22, 23, 24] (by decide +kernel) (by decide +kernel)
set_option maxRecDepth 20000 in
theorem gX3_lineIn_X3_isSet : GoodIn wsX3_lineIn (wsV RX3 105 RX3 yX3_isSet wsX3_isSet) := goodIn_app (goodIn_of _ (by decide +kernel)) ggX3_lineIn_X3_isSet
theorem dX3_lineIn_0 : decode cX3_lineIn 0 = .ok (.aload_n 0, 1) := by decide +kernel
theorem dX3_lineIn_1 : decode cX3_lineIn 1 = .ok (.aload_n 0, 1) := by decide +kernel
theorem dX3_lineIn_2 : decode cX3_lineIn 2 = .ok (.iload_n 1, 1) := by decide +kernel
theorem dX3_lineIn_3 : decode cX3_lineIn 3 = .ok (.invokevirtual 105, 3) := by decide +kernel
theorem dX3_lineIn_6 : decode cX3_lineIn 6 = .ok (.ifCond .eq 7, 3) := by decide +kernel
theorem dX3_lineIn_9 : decode cX3_lineIn 9 = .ok (.iconst 0, 1) := by decide +kernel
theorem dX3_lineIn_10 : decode cX3_lineIn 10 = .ok (.goto 4, 3) := by decide +kernel
theorem dX3_lineIn_13 : decode cX3_lineIn 13 = .ok (.iconst 1, 1) := by decide +kernel
theorem dX3_lineIn_14 : decode cX3_lineIn 14 = .ok (.putfield 44, 3) := by decide +kernel
theorem dX3_lineIn_17 : decode cX3_lineIn 17 = .ok (.aload_n 0, 1) := by decide +kernel
theorem dX3_lineIn_18 : decode cX3_lineIn 18 = .ok (.getfield 44, 3) := by decide +kernel
theorem dX3_lineIn_21 : decode cX3_lineIn 21 = .ok (.ifCond .ne 12, 3) := by decide +kernel
theorem dX3_lineIn_24 : decode cX3_lineIn 24 = .ok (.aload_n 0, 1) := by decide +kernel
theorem dX3_lineIn_25 : decode cX3_lineIn 25 = .ok (.getfield 22, 3) := by decide +kernel
theorem dX3_lineIn_28 : decode cX3_lineIn 28 = .ok (.iload_n 1, 1) := by decide +kernel
theorem dX3_lineIn_29 : decode cX3_lineIn 29 = .ok (.iaload, 1) := by decide +kernel
theorem dX3_lineIn_30 : decode cX3_lineIn 30 = .ok (.goto 4, 3) := by decide +kernel
theorem dX3_lineIn_33 : decode cX3_lineIn 33 = .ok (.iconst 0, 1) := by decide +kernel
theorem dX3_lineIn_34 : decode cX3_lineIn 34 = .ok (.ireturn, 1) := by decide +kernel
theorem dX3_sitting_0 : decode cX3_sitting 0 = .ok (.aload_n 0, 1) := by decide +kernel
theorem dX3_sitting_1 : decode cX3_sitting 1 = .ok (.iconst 0, 1) := by decide +kernel
theorem dX3_sitting_2 : decode cX3_sitting 2 = .ok (.putfield 44, 3) := by decide +kernel
theorem dX3_sitting_5 : decode cX3_sitting 5 = .ok (.aload_n 0, 1) := by decide +kernel
theorem dX3_sitting_6 : decode cX3_sitting 6 = .ok (.getfield 28, 3) := by decide +kernel
theorem dX3_sitting_9 : decode cX3_sitting 9 = .ok (.iconst 0, 1) := by decide +kernel
theorem dX3_sitting_10 : decode cX3_sitting 10 = .ok (.iaload, 1) := by decide +kernel
theorem dX3_sitting_11 : decode cX3_sitting 11 = .ok (.ireturn, 1) := by decide +kernel
theorem dX3_lineOnBench_0 : decode cX3_lineOnBench 0 = .ok (.aload_n 0, 1) := by decide +kernel
theorem dX3_lineOnBench_1 : decode cX3_lineOnBench 1 = .ok (.iload_n 1, 1) := by decide +kernel
theorem dX3_lineOnBench_2 : decode cX3_lineOnBench 2 = .ok (.ifCond .lt 17, 3) := by decide +kernel
theorem dX3_lineOnBench_5 : decode cX3_lineOnBench 5 = .ok (.iload_n 1, 1) := by decide +kernel
theorem dX3_lineOnBench_6 : decode cX3_lineOnBench 6 = .ok (.aload_n 0, 1) := by decide +kernel
theorem dX3_lineOnBench_7 : decode cX3_lineOnBench 7 = .ok (.getfield 28, 3) := by decide +kernel
theorem dX3_lineOnBench_10 : decode cX3_lineOnBench 10 = .ok (.iconst 0, 1) := by decide +kernel
theorem dX3_lineOnBench_11 : decode cX3_lineOnBench 11 = .ok (.iaload, 1) := by decide +kernel
theorem dX3_lineOnBench_12 : decode cX3_lineOnBench 12 = .ok (.if_icmp .ge 7, 3) := by decide +kernel
theorem dX3_lineOnBench_15 : decode cX3_lineOnBench 15 = .ok (.iconst 0, 1) := by decide +kernel
theorem dX3_lineOnBench_16 : decode cX3_lineOnBench 16 = .ok (.goto 4, 3) := by decide +kernel
theorem dX3_lineOnBench_19 : decode cX3_lineOnBench 19 = .ok (.iconst 1, 1) := by decide +kernel
theorem dX3_lineOnBench_20 : decode cX3_lineOnBench 20 = .ok (.putfield 44, 3) := by decide +kernel
theorem dX3_lineOnBench_23 : decode cX3_lineOnBench 23 = .ok (.aload_n 0, 1) := by decide +kernel
theorem dX3_lineOnBench_24 : decode cX3_lineOnBench 24 = .ok (.getfield 44, 3) := by decide +kernel
theorem dX3_lineOnBench_27 : decode cX3_lineOnBench 27 = .ok (.ifCond .ne 12, 3) := by decide +kernel
theorem dX3_lineOnBench_30 : decode cX3_lineOnBench 30 = .ok (.aload_n 0, 1) := by decide +kernel
theorem dX3_lineOnBench_31 : decode cX3_lineOnBench 31 = .ok (.getfield 25, 3) := by decide +kernel
theorem dX3_lineOnBench_34 : decode cX3_lineOnBench 34 = .ok (.iload_n 1, 1) := by decide +kernel
theorem dX3_lineOnBench_35 : decode cX3_lineOnBench 35 = .ok (.iaload, 1) := by decide +kernel
theorem dX3_lineOnBench_36 : decode cX3_lineOnBench 36 = .ok (.goto 4, 3) := by decide +kernel
theorem dX3_lineOnBench_39 : decode cX3_lineOnBench 39 = .ok (.iconst 0, 1) := by decide +kernel
theorem dX3_lineOnBench_40 : decode cX3_lineOnBench 40 = .ok (.ireturn, 1) := by decide +kernel
theorem dX3_isLine_0 : decode cX3_isLine 0 = .ok (.aload_n 0, 1) := by decide +kernel
theorem dX3_isLine_1 : decode cX3_isLine 1 = .ok (.iload_n 1, 1) := by decide +kernel
theorem dX3_isLine_2 : decode cX3_isLine 2 = .ok (.ifCond .lt 14, 3) := by decide +kernel
theorem dX3_isLine_5 : decode cX3_isLine 5 = .ok (.iload_n 1, 1) := by decide +kernel
theorem dX3_isLine_6 : decode cX3_isLine 6 = .ok (.sipush 256, 3) := by decide +kernel
theorem dX3_isLine_9 : decode cX3_isLine 9 = .ok (.if_icmp .ge 7, 3) := by decide +kernel
theorem dX3_isLine_12 : decode cX3_isLine 12 = .ok (.iconst 0, 1) := by decide +kernel
theorem dX3_isLine_13 : decode cX3_isLine 13 = .ok (.goto 4, 3) := by decide +kernel
theorem dX3_isLine_16 : decode cX3_isLine 16 = .ok (.iconst 1, 1) := by decide +kernel
theorem dX3_isLine_17 : decode cX3_isLine 17 = .ok (.putfield 44, 3) := by decide +kernel
theorem dX3_isLine_20 : decode cX3_isLine 20 = .ok (.aload_n 0, 1) := by decide +kernel
theorem dX3_isLine_21 : decode cX3_isLine 21 = .ok (.getfield 44, 3) := by decide +kernel
theorem dX3_isLine_24 : decode cX3_isLine 24 = .ok (.ifCond .ne 7, 3) := by decide +kernel
theorem dX3_isLine_27 : decode cX3_isLine 27 = .ok (.iconst 1, 1) := by decide +kernel
theorem dX3_isLine_28 : decode cX3_isLine 28 = .ok (.goto 4, 3) := by decide +kernel
theorem dX3_isLine_31 : decode cX3_isLine 31 = .ok (.iconst 0, 1) := by decide +kernel
theorem dX3_isLine_32 : decode cX3_isLine 32 = .ok (.ireturn, 1) := by decide +kernel
set_option maxRecDepth 20000 in
theorem ggX3_placeOf_X3_isLine : GoodIn wsX3_placeOf wsX3_isLine := goodIn_r _ [7, 8, 15, 16, 17, 18, 19, 20, 21, 22, 23, 24, 25, 26, 27, 28, 29, 30] (by decide +kernel) (by decide +kernel)
set_option maxRecDepth 20000 in
theorem gX3_placeOf_X3_isLine : GoodIn wsX3_placeOf (wsV RX3 108 RX3 yX3_isLine wsX3_isLine) := goodIn_app (goodIn_of _ (by decide +kernel)) ggX3_placeOf_X3_isLine
set_option maxRecDepth 20000 in
theorem ggX3_placeOf_X3_seat : GoodIn wsX3_placeOf wsX3_seat := goodIn_r _ [12, 13, 14, 15, 16, 17, 18, 19, 20, 21, 22, 23, 24, 25, 26, 27, 28, 29, 30] (by decide +kernel) (by decide +kernel)
set_option maxRecDepth 20000 in
theorem gX3_placeOf_X3_seat : GoodIn wsX3_placeOf (wsV RX3 61 RX3 yX3_seat wsX3_seat) := goodIn_app (goodIn_of _ (by decide +kernel)) ggX3_placeOf_X3_seat
theorem dX3_placeOf_0 : decode cX3_placeOf 0 = .ok (.aload_n 0, 1) := by decide +kernel
theorem dX3_placeOf_1 : decode cX3_placeOf 1 = .ok (.iload_n 1, 1) := by decide +kernel
theorem dX3_placeOf_2 : decode cX3_placeOf 2 = .ok (.invokevirtual 108, 3) := by decide +kernel
theorem dX3_placeOf_5 : decode cX3_placeOf 5 = .ok (.ifCond .ne 7, 3) := by decide +kernel
theorem dX3_placeOf_8 : decode cX3_placeOf 8 = .ok (.iconst 0, 1) := by decide +kernel
theorem dX3_placeOf_9 : decode cX3_placeOf 9 = .ok (.goto 38, 3) := by decide +kernel
theorem dX3_placeOf_12 : decode cX3_placeOf 12 = .ok (.aload_n 0, 1) := by decide +kernel
theorem dX3_placeOf_13 : decode cX3_placeOf 13 = .ok (.getfield 22, 3) := by decide +kernel
theorem dX3_placeOf_16 : decode cX3_placeOf 16 = .ok (.iload_n 1, 1) := by decide +kernel
theorem dX3_placeOf_17 : decode cX3_placeOf 17 = .ok (.aload_n 0, 1) := by decide +kernel
theorem dX3_placeOf_18 : decode cX3_placeOf 18 = .ok (.getfield 16, 3) := by decide +kernel
theorem dX3_placeOf_21 : decode cX3_placeOf 21 = .ok (.iconst 0, 1) := by decide +kernel
theorem dX3_placeOf_22 : decode cX3_placeOf 22 = .ok (.iaload, 1) := by decide +kernel
theorem dX3_placeOf_23 : decode cX3_placeOf 23 = .ok (.irem, 1) := by decide +kernel
theorem dX3_placeOf_24 : decode cX3_placeOf 24 = .ok (.iaload, 1) := by decide +kernel
theorem dX3_placeOf_25 : decode cX3_placeOf 25 = .ok (.iload_n 1, 1) := by decide +kernel
theorem dX3_placeOf_26 : decode cX3_placeOf 26 = .ok (.if_icmp .ne 7, 3) := by decide +kernel
theorem dX3_placeOf_29 : decode cX3_placeOf 29 = .ok (.iconst 1, 1) := by decide +kernel
theorem dX3_placeOf_30 : decode cX3_placeOf 30 = .ok (.goto 17, 3) := by decide +kernel
theorem dX3_placeOf_33 : decode cX3_placeOf 33 = .ok (.aload_n 0, 1) := by decide +kernel
theorem dX3_placeOf_34 : decode cX3_placeOf 34 = .ok (.iconst 0, 1) := by decide +kernel
theorem dX3_placeOf_35 : decode cX3_placeOf 35 = .ok (.iload_n 1, 1) := by decide +kernel
theorem dX3_placeOf_36 : decode cX3_placeOf 36 = .ok (.invokevirtual 61, 3) := by decide +kernel
theorem dX3_placeOf_39 : decode cX3_placeOf 39 = .ok (.ifCond .lt 7, 3) := by decide +kernel
theorem dX3_placeOf_42 : decode cX3_placeOf 42 = .ok (.iconst 2, 1) := by decide +kernel
theorem dX3_placeOf_43 : decode cX3_placeOf 43 = .ok (.goto 4, 3) := by decide +kernel
theorem dX3_placeOf_46 : decode cX3_placeOf 46 = .ok (.iconst 0, 1) := by decide +kernel
theorem dX3_placeOf_47 : decode cX3_placeOf 47 = .ok (.ireturn, 1) := by decide +kernel
set_option maxRecDepth 20000 in
theorem ggX3_isDirty_X3_isLine : GoodIn wsX3_isDirty wsX3_isLine := goodIn_r _ [6, 7, 8, 9, 10, 11, 12, 13, 14, 15, 16, 17, 18, 19, 20, 21, 22, 23] (by decide +kernel) (by decide +kernel)
set_option maxRecDepth 20000 in
theorem gX3_isDirty_X3_isLine : GoodIn wsX3_isDirty (wsV RX3 108 RX3 yX3_isLine wsX3_isLine) := goodIn_app (goodIn_of _ (by decide +kernel)) ggX3_isDirty_X3_isLine
theorem dX3_isDirty_0 : decode cX3_isDirty 0 = .ok (.aload_n 0, 1) := by decide +kernel
theorem dX3_isDirty_1 : decode cX3_isDirty 1 = .ok (.iload_n 1, 1) := by decide +kernel
theorem dX3_isDirty_2 : decode cX3_isDirty 2 = .ok (.invokevirtual 108, 3) := by decide +kernel
theorem dX3_isDirty_5 : decode cX3_isDirty 5 = .ok (.ifCond .eq 17, 3) := by decide +kernel
theorem dX3_isDirty_8 : decode cX3_isDirty 8 = .ok (.aload_n 0, 1) := by decide +kernel
theorem dX3_isDirty_9 : decode cX3_isDirty 9 = .ok (.getfield 31, 3) := by decide +kernel
theorem dX3_isDirty_12 : decode cX3_isDirty 12 = .ok (.iload_n 1, 1) := by decide +kernel
theorem dX3_isDirty_13 : decode cX3_isDirty 13 = .ok (.iaload, 1) := by decide +kernel
theorem dX3_isDirty_14 : decode cX3_isDirty 14 = .ok (.iconst 1, 1) := by decide +kernel
theorem dX3_isDirty_15 : decode cX3_isDirty 15 = .ok (.if_icmp .ne 7, 3) := by decide +kernel
theorem dX3_isDirty_18 : decode cX3_isDirty 18 = .ok (.iconst 1, 1) := by decide +kernel
theorem dX3_isDirty_19 : decode cX3_isDirty 19 = .ok (.goto 4, 3) := by decide +kernel
theorem dX3_isDirty_22 : decode cX3_isDirty 22 = .ok (.iconst 0, 1) := by decide +kernel
theorem dX3_isDirty_23 : decode cX3_isDirty 23 = .ok (.ireturn, 1) := by decide +kernel
theorem dX3_dirty_0 : decode cX3_dirty 0 = .ok (.aload_n 0, 1) := by decide +kernel
theorem dX3_dirty_1 : decode cX3_dirty 1 = .ok (.iconst 0, 1) := by decide +kernel
theorem dX3_dirty_2 : decode cX3_dirty 2 = .ok (.putfield 44, 3) := by decide +kernel
theorem dX3_dirty_5 : decode cX3_dirty 5 = .ok (.iconst 0, 1) := by decide +kernel
theorem dX3_dirty_6 : decode cX3_dirty 6 = .ok (.istore_n 1, 1) := by decide +kernel
theorem dX3_dirty_7 : decode cX3_dirty 7 = .ok (.iconst 0, 1) := by decide +kernel
theorem dX3_dirty_8 : decode cX3_dirty 8 = .ok (.istore_n 2, 1) := by decide +kernel
theorem dX3_dirty_9 : decode cX3_dirty 9 = .ok (.iload_n 2, 1) := by decide +kernel
theorem dX3_dirty_10 : decode cX3_dirty 10 = .ok (.sipush 256, 3) := by decide +kernel
theorem dX3_dirty_13 : decode cX3_dirty 13 = .ok (.if_icmp .ge 18, 3) := by decide +kernel
theorem dX3_dirty_16 : decode cX3_dirty 16 = .ok (.iload_n 1, 1) := by decide +kernel
theorem dX3_dirty_17 : decode cX3_dirty 17 = .ok (.aload_n 0, 1) := by decide +kernel
theorem dX3_dirty_18 : decode cX3_dirty 18 = .ok (.getfield 31, 3) := by decide +kernel
theorem dX3_dirty_21 : decode cX3_dirty 21 = .ok (.iload_n 2, 1) := by decide +kernel
theorem dX3_dirty_22 : decode cX3_dirty 22 = .ok (.iaload, 1) := by decide +kernel
theorem dX3_dirty_23 : decode cX3_dirty 23 = .ok (.iadd, 1) := by decide +kernel
theorem dX3_dirty_24 : decode cX3_dirty 24 = .ok (.istore_n 1, 1) := by decide +kernel
theorem dX3_dirty_25 : decode cX3_dirty 25 = .ok (.iinc 2 1, 3) := by decide +kernel
theorem dX3_dirty_28 : decode cX3_dirty 28 = .ok (.goto (-19), 3) := by decide +kernel
theorem dX3_dirty_31 : decode cX3_dirty 31 = .ok (.iload_n 1, 1) := by decide +kernel
theorem dX3_dirty_32 : decode cX3_dirty 32 = .ok (.ireturn, 1) := by decide +kernel
set_option maxRecDepth 20000 in
theorem ggX3_atHome_X3_isWord : GoodIn wsX3_atHome wsX3_isWord := goodIn_r _ [6] (by decide +kernel) (by decide +kernel)
set_option maxRecDepth 20000 in
theorem gX3_atHome_X3_isWord : GoodIn wsX3_atHome (va_wsS RX3 86 yX3_isWord wsX3_isWord) := goodIn_app (goodIn_of _ (by decide +kernel)) ggX3_atHome_X3_isWord
theorem dX3_atHome_0 : decode cX3_atHome 0 = .ok (.aload_n 0, 1) := by decide +kernel
theorem dX3_atHome_1 : decode cX3_atHome 1 = .ok (.iload_n 1, 1) := by decide +kernel
theorem dX3_atHome_2 : decode cX3_atHome 2 = .ok (.invokestatic 86, 3) := by decide +kernel
theorem dX3_atHome_5 : decode cX3_atHome 5 = .ok (.ifCond .eq 7, 3) := by decide +kernel
theorem dX3_atHome_8 : decode cX3_atHome 8 = .ok (.iconst 0, 1) := by decide +kernel
theorem dX3_atHome_9 : decode cX3_atHome 9 = .ok (.goto 4, 3) := by decide +kernel
theorem dX3_atHome_12 : decode cX3_atHome 12 = .ok (.iconst 1, 1) := by decide +kernel
theorem dX3_atHome_13 : decode cX3_atHome 13 = .ok (.putfield 44, 3) := by decide +kernel
theorem dX3_atHome_16 : decode cX3_atHome 16 = .ok (.aload_n 0, 1) := by decide +kernel
theorem dX3_atHome_17 : decode cX3_atHome 17 = .ok (.getfield 44, 3) := by decide +kernel
theorem dX3_atHome_20 : decode cX3_atHome 20 = .ok (.ifCond .ne 12, 3) := by decide +kernel
theorem dX3_atHome_23 : decode cX3_atHome 23 = .ok (.aload_n 0, 1) := by decide +kernel
theorem dX3_atHome_24 : decode cX3_atHome 24 = .ok (.getfield 13, 3) := by decide +kernel
theorem dX3_atHome_27 : decode cX3_atHome 27 = .ok (.iload_n 1, 1) := by decide +kernel
theorem dX3_atHome_28 : decode cX3_atHome 28 = .ok (.iaload, 1) := by decide +kernel
theorem dX3_atHome_29 : decode cX3_atHome 29 = .ok (.goto 4, 3) := by decide +kernel
theorem dX3_atHome_32 : decode cX3_atHome 32 = .ok (.iconst 0, 1) := by decide +kernel
theorem dX3_atHome_33 : decode cX3_atHome 33 = .ok (.ireturn, 1) := by decide +kernel
set_option maxRecDepth 20000 in
theorem ggX3_peek_X3_isWord : GoodIn wsX3_peek wsX3_isWord := goodIn_r _ [6] (by decide +kernel) (by decide +kernel)
set_option maxRecDepth 20000 in
theorem gX3_peek_X3_isWord : GoodIn wsX3_peek (va_wsS RX3 86 yX3_isWord wsX3_isWord) := goodIn_app (goodIn_of _ (by decide +kernel)) ggX3_peek_X3_isWord
theorem dX3_peek_0 : decode cX3_peek 0 = .ok (.aload_n 0, 1) := by decide +kernel
theorem dX3_peek_1 : decode cX3_peek 1 = .ok (.iload_n 1, 1) := by decide +kernel
theorem dX3_peek_2 : decode cX3_peek 2 = .ok (.invokestatic 86, 3) := by decide +kernel
theorem dX3_peek_5 : decode cX3_peek 5 = .ok (.ifCond .eq 7, 3) := by decide +kernel
theorem dX3_peek_8 : decode cX3_peek 8 = .ok (.iconst 0, 1) := by decide +kernel
theorem dX3_peek_9 : decode cX3_peek 9 = .ok (.goto 4, 3) := by decide +kernel
theorem dX3_peek_12 : decode cX3_peek 12 = .ok (.iconst 1, 1) := by decide +kernel
theorem dX3_peek_13 : decode cX3_peek 13 = .ok (.putfield 44, 3) := by decide +kernel
theorem dX3_peek_16 : decode cX3_peek 16 = .ok (.aload_n 0, 1) := by decide +kernel
theorem dX3_peek_17 : decode cX3_peek 17 = .ok (.getfield 44, 3) := by decide +kernel
theorem dX3_peek_20 : decode cX3_peek 20 = .ok (.ifCond .ne 12, 3) := by decide +kernel
theorem dX3_peek_23 : decode cX3_peek 23 = .ok (.aload_n 0, 1) := by decide +kernel
theorem dX3_peek_24 : decode cX3_peek 24 = .ok (.getfield 7, 3) := by decide +kernel
theorem dX3_peek_27 : decode cX3_peek 27 = .ok (.iload_n 1, 1) := by decide +kernel
theorem dX3_peek_28 : decode cX3_peek 28 = .ok (.iaload, 1) := by decide +kernel
theorem dX3_peek_29 : decode cX3_peek 29 = .ok (.goto 4, 3) := by decide +kernel
theorem dX3_peek_32 : decode cX3_peek 32 = .ok (.iconst 0, 1) := by decide +kernel
theorem dX3_peek_33 : decode cX3_peek 33 = .ok (.ireturn, 1) := by decide +kernel
theorem dX3_hits_0 : decode cX3_hits 0 = .ok (.aload_n 0, 1) := by decide +kernel
theorem dX3_hits_1 : decode cX3_hits 1 = .ok (.iconst 0, 1) := by decide +kernel
theorem dX3_hits_2 : decode cX3_hits 2 = .ok (.putfield 44, 3) := by decide +kernel
theorem dX3_hits_5 : decode cX3_hits 5 = .ok (.aload_n 0, 1) := by decide +kernel
theorem dX3_hits_6 : decode cX3_hits 6 = .ok (.getfield 74, 3) := by decide +kernel
theorem dX3_hits_9 : decode cX3_hits 9 = .ok (.ireturn, 1) := by decide +kernel
theorem dX3_swaps_0 : decode cX3_swaps 0 = .ok (.aload_n 0, 1) := by decide +kernel
theorem dX3_swaps_1 : decode cX3_swaps 1 = .ok (.iconst 0, 1) := by decide +kernel
theorem dX3_swaps_2 : decode cX3_swaps 2 = .ok (.putfield 44, 3) := by decide +kernel
theorem dX3_swaps_5 : decode cX3_swaps 5 = .ok (.aload_n 0, 1) := by decide +kernel
theorem dX3_swaps_6 : decode cX3_swaps 6 = .ok (.getfield 77, 3) := by decide +kernel
theorem dX3_swaps_9 : decode cX3_swaps 9 = .ok (.ireturn, 1) := by decide +kernel
theorem dX3_misses_0 : decode cX3_misses 0 = .ok (.aload_n 0, 1) := by decide +kernel
theorem dX3_misses_1 : decode cX3_misses 1 = .ok (.iconst 0, 1) := by decide +kernel
theorem dX3_misses_2 : decode cX3_misses 2 = .ok (.putfield 44, 3) := by decide +kernel
theorem dX3_misses_5 : decode cX3_misses 5 = .ok (.aload_n 0, 1) := by decide +kernel
theorem dX3_misses_6 : decode cX3_misses 6 = .ok (.getfield 80, 3) := by decide +kernel
theorem dX3_misses_9 : decode cX3_misses 9 = .ok (.ireturn, 1) := by decide +kernel
theorem dX3_homecomings_0 : decode cX3_homecomings 0 = .ok (.aload_n 0, 1) := by decide +kernel
theorem dX3_homecomings_1 : decode cX3_homecomings 1 = .ok (.iconst 0, 1) := by decide +kernel
theorem dX3_homecomings_2 : decode cX3_homecomings 2 = .ok (.putfield 44, 3) := by decide +kernel
theorem dX3_homecomings_5 : decode cX3_homecomings 5 = .ok (.aload_n 0, 1) := by decide +kernel
theorem dX3_homecomings_6 : decode cX3_homecomings 6 = .ok (.getfield 48, 3) := by decide +kernel
theorem dX3_homecomings_9 : decode cX3_homecomings 9 = .ok (.ireturn, 1) := by decide +kernel
theorem dX3_cost_0 : decode cX3_cost 0 = .ok (.aload_n 0, 1) := by decide +kernel
theorem dX3_cost_1 : decode cX3_cost 1 = .ok (.iconst 0, 1) := by decide +kernel
theorem dX3_cost_2 : decode cX3_cost 2 = .ok (.putfield 44, 3) := by decide +kernel
theorem dX3_cost_5 : decode cX3_cost 5 = .ok (.aload_n 0, 1) := by decide +kernel
theorem dX3_cost_6 : decode cX3_cost 6 = .ok (.getfield 34, 3) := by decide +kernel
theorem dX3_cost_9 : decode cX3_cost 9 = .ok (.iconst 0, 1) := by decide +kernel
theorem dX3_cost_10 : decode cX3_cost 10 = .ok (.iaload, 1) := by decide +kernel
theorem dX3_cost_11 : decode cX3_cost 11 = .ok (.ireturn, 1) := by decide +kernel
set_option maxRecDepth 20000 in
theorem ggX3_tried_X3_empties : GoodIn wsX3_tried wsX3_empties := goodIn_r _ [11, 12, 13, 6, 46, 47, 48, 49, 50, 51, 52, 53, 54, 55, 56, 57, 58, 59, 60, 61] (by decide +kernel) (by decide +kernel)
set_option maxRecDepth 20000 in
theorem gX3_tried_X3_empties : GoodIn wsX3_tried (wsV RX3 40 RX3 yX3_empties wsX3_empties) := goodIn_app (goodIn_of _ (by decide +kernel)) ggX3_tried_X3_empties
set_option maxRecDepth 20000 in
theorem ggX3_tried_X3_access : GoodIn wsX3_tried wsX3_access := goodIn_r _ [17, 1, 12, 3, 18, 19, 20, 10, 21, 13, 22, 23, 24, 25, 26, 27, 28, 29, 30, 31, 32, 33, 34, 2, 35, 36, 37, 38, 6, 39, 40, 41, 42, 43, 44, 45, 46, 47, 48, 49, 50, 51, 52, 53, 54, 55, 56, 57, 58, 59, 60, 61] (by decide +kernel) (by decide +kernel)
set_option maxRecDepth 20000 in
theorem gX3_tried_X3_access : GoodIn wsX3_tried (wsV RX3 71 RX3 yX3_access wsX3_access) := goodIn_app (goodIn_of _ (by decide +kernel)) ggX3_tried_X3_access
theorem dX3_tried_0 : decode cX3_tried 0 = .ok (.aload_n 0, 1) := by decide +kernel
theorem dX3_tried_1 : decode cX3_tried 1 = .ok (.iconst 1, 1) := by decide +kernel
theorem dX3_tried_2 : decode cX3_tried 2 = .ok (.invokevirtual 40, 3) := by decide +kernel
theorem dX3_tried_5 : decode cX3_tried 5 = .ok (.aload_n 0, 1) := by decide +kernel
theorem dX3_tried_6 : decode cX3_tried 6 = .ok (.getfield 16, 3) := by decide +kernel
theorem dX3_tried_9 : decode cX3_tried 9 = .ok (.iconst 1, 1) := by decide +kernel
theorem dX3_tried_10 : decode cX3_tried 10 = .ok (.iload_n 1, 1) := by decide +kernel
theorem dX3_tried_11 : decode cX3_tried 11 = .ok (.iastore, 1) := by decide +kernel
theorem dX3_tried_12 : decode cX3_tried 12 = .ok (.aload_n 0, 1) := by decide +kernel
theorem dX3_tried_13 : decode cX3_tried 13 = .ok (.getfield 19, 3) := by decide +kernel
theorem dX3_tried_16 : decode cX3_tried 16 = .ok (.iconst 1, 1) := by decide +kernel
theorem dX3_tried_17 : decode cX3_tried 17 = .ok (.iload_n 2, 1) := by decide +kernel
theorem dX3_tried_18 : decode cX3_tried 18 = .ok (.iastore, 1) := by decide +kernel
theorem dX3_tried_19 : decode cX3_tried 19 = .ok (.aload_n 0, 1) := by decide +kernel
theorem dX3_tried_20 : decode cX3_tried 20 = .ok (.getfield 34, 3) := by decide +kernel
theorem dX3_tried_23 : decode cX3_tried 23 = .ok (.iconst 1, 1) := by decide +kernel
theorem dX3_tried_24 : decode cX3_tried 24 = .ok (.iconst 0, 1) := by decide +kernel
theorem dX3_tried_25 : decode cX3_tried 25 = .ok (.iastore, 1) := by decide +kernel
theorem dX3_tried_26 : decode cX3_tried 26 = .ok (.iconst 0, 1) := by decide +kernel
theorem dX3_tried_27 : decode cX3_tried 27 = .ok (.istore_n 3, 1) := by decide +kernel
theorem dX3_tried_28 : decode cX3_tried 28 = .ok (.iload_n 3, 1) := by decide +kernel
theorem dX3_tried_29 : decode cX3_tried 29 = .ok (.aload_n 0, 1) := by decide +kernel
theorem dX3_tried_30 : decode cX3_tried 30 = .ok (.getfield 83, 3) := by decide +kernel
theorem dX3_tried_33 : decode cX3_tried 33 = .ok (.if_icmp .ge 66, 3) := by decide +kernel
theorem dX3_tried_36 : decode cX3_tried 36 = .ok (.aload_n 0, 1) := by decide +kernel
theorem dX3_tried_37 : decode cX3_tried 37 = .ok (.getfield 37, 3) := by decide +kernel
theorem dX3_tried_40 : decode cX3_tried 40 = .ok (.iload_n 3, 1) := by decide +kernel
theorem dX3_tried_41 : decode cX3_tried 41 = .ok (.iaload, 1) := by decide +kernel
theorem dX3_tried_42 : decode cX3_tried 42 = .ok (.iconst 2, 1) := by decide +kernel
theorem dX3_tried_43 : decode cX3_tried 43 = .ok (.idiv, 1) := by decide +kernel
theorem dX3_tried_44 : decode cX3_tried 44 = .ok (.istore 4, 2) := by decide +kernel
theorem dX3_tried_46 : decode cX3_tried 46 = .ok (.aload_n 0, 1) := by decide +kernel
theorem dX3_tried_47 : decode cX3_tried 47 = .ok (.iconst 1, 1) := by decide +kernel
theorem dX3_tried_48 : decode cX3_tried 48 = .ok (.iload 4, 2) := by decide +kernel
theorem dX3_tried_50 : decode cX3_tried 50 = .ok (.invokevirtual 71, 3) := by decide +kernel
theorem dX3_tried_53 : decode cX3_tried 53 = .ok (.istore 5, 2) := by decide +kernel
theorem dX3_tried_55 : decode cX3_tried 55 = .ok (.aload_n 0, 1) := by decide +kernel
theorem dX3_tried_56 : decode cX3_tried 56 = .ok (.getfield 31, 3) := by decide +kernel
theorem dX3_tried_59 : decode cX3_tried 59 = .ok (.sipush 256, 3) := by decide +kernel
theorem dX3_tried_62 : decode cX3_tried 62 = .ok (.iload 4, 2) := by decide +kernel
theorem dX3_tried_64 : decode cX3_tried 64 = .ok (.iadd, 1) := by decide +kernel
theorem dX3_tried_65 : decode cX3_tried 65 = .ok (.aload_n 0, 1) := by decide +kernel
theorem dX3_tried_66 : decode cX3_tried 66 = .ok (.getfield 37, 3) := by decide +kernel
theorem dX3_tried_69 : decode cX3_tried 69 = .ok (.iload_n 3, 1) := by decide +kernel
theorem dX3_tried_70 : decode cX3_tried 70 = .ok (.iaload, 1) := by decide +kernel
theorem dX3_tried_71 : decode cX3_tried 71 = .ok (.iconst 2, 1) := by decide +kernel
theorem dX3_tried_72 : decode cX3_tried 72 = .ok (.irem, 1) := by decide +kernel
theorem dX3_tried_73 : decode cX3_tried 73 = .ok (.iconst 1, 1) := by decide +kernel
theorem dX3_tried_74 : decode cX3_tried 74 = .ok (.if_icmp .ne 7, 3) := by decide +kernel
theorem dX3_tried_77 : decode cX3_tried 77 = .ok (.iconst 1, 1) := by decide +kernel
theorem dX3_tried_78 : decode cX3_tried 78 = .ok (.goto 14, 3) := by decide +kernel
theorem dX3_tried_81 : decode cX3_tried 81 = .ok (.aload_n 0, 1) := by decide +kernel
theorem dX3_tried_82 : decode cX3_tried 82 = .ok (.getfield 31, 3) := by decide +kernel
theorem dX3_tried_85 : decode cX3_tried 85 = .ok (.sipush 256, 3) := by decide +kernel
theorem dX3_tried_88 : decode cX3_tried 88 = .ok (.iload 4, 2) := by decide +kernel
theorem dX3_tried_90 : decode cX3_tried 90 = .ok (.iadd, 1) := by decide +kernel
theorem dX3_tried_91 : decode cX3_tried 91 = .ok (.iaload, 1) := by decide +kernel
theorem dX3_tried_92 : decode cX3_tried 92 = .ok (.iastore, 1) := by decide +kernel
theorem dX3_tried_93 : decode cX3_tried 93 = .ok (.iinc 3 1, 3) := by decide +kernel
theorem dX3_tried_96 : decode cX3_tried 96 = .ok (.goto (-68), 3) := by decide +kernel
theorem dX3_tried_99 : decode cX3_tried 99 = .ok (.aload_n 0, 1) := by decide +kernel
theorem dX3_tried_100 : decode cX3_tried 100 = .ok (.getfield 34, 3) := by decide +kernel
theorem dX3_tried_103 : decode cX3_tried 103 = .ok (.iconst 1, 1) := by decide +kernel
theorem dX3_tried_104 : decode cX3_tried 104 = .ok (.iaload, 1) := by decide +kernel
theorem dX3_tried_105 : decode cX3_tried 105 = .ok (.ireturn, 1) := by decide +kernel
set_option maxRecDepth 20000 in
theorem ggX3_wouldCost_X3_isSize : GoodIn wsX3_wouldCost wsX3_isSize := goodIn_r _ [5] (by decide +kernel) (by decide +kernel)
set_option maxRecDepth 20000 in
theorem gX3_wouldCost_X3_isSize : GoodIn wsX3_wouldCost (va_wsS RX3 98 yX3_isSize wsX3_isSize) := goodIn_app (goodIn_of _ (by decide +kernel)) ggX3_wouldCost_X3_isSize
set_option maxRecDepth 20000 in
theorem ggX3_wouldCost_X3_tried : GoodIn wsX3_wouldCost wsX3_tried := goodIn_r _ [9, 10, 11, 12, 13, 14, 15, 16, 17, 18, 4, 19, 20, 21, 22, 23, 24, 25, 26, 27, 28, 29, 30, 31, 32, 33, 34, 35, 36, 37, 38, 39, 40, 41, 42, 43, 44, 45, 46, 47, 48, 49, 50, 51, 52, 53, 54, 55, 56, 57, 58, 59, 60, 61, 62, 63, 64, 65, 66, 67, 68, 69] (by decide +kernel) (by decide +kernel)
set_option maxRecDepth 20000 in
theorem gX3_wouldCost_X3_tried : GoodIn wsX3_wouldCost (wsV RX3 111 RX3 yX3_tried wsX3_tried) := goodIn_app (goodIn_of _ (by decide +kernel)) ggX3_wouldCost_X3_tried
theorem dX3_wouldCost_0 : decode cX3_wouldCost 0 = .ok (.aload_n 0, 1) := by decide +kernel
theorem dX3_wouldCost_1 : decode cX3_wouldCost 1 = .ok (.iload_n 1, 1) := by decide +kernel
theorem dX3_wouldCost_2 : decode cX3_wouldCost 2 = .ok (.iload_n 2, 1) := by decide +kernel
theorem dX3_wouldCost_3 : decode cX3_wouldCost 3 = .ok (.invokestatic 98, 3) := by decide +kernel
theorem dX3_wouldCost_6 : decode cX3_wouldCost 6 = .ok (.ifCond .eq 7, 3) := by decide +kernel
theorem dX3_wouldCost_9 : decode cX3_wouldCost 9 = .ok (.iconst 0, 1) := by decide +kernel
theorem dX3_wouldCost_10 : decode cX3_wouldCost 10 = .ok (.goto 4, 3) := by decide +kernel
theorem dX3_wouldCost_13 : decode cX3_wouldCost 13 = .ok (.iconst 1, 1) := by decide +kernel
theorem dX3_wouldCost_14 : decode cX3_wouldCost 14 = .ok (.putfield 44, 3) := by decide +kernel
theorem dX3_wouldCost_17 : decode cX3_wouldCost 17 = .ok (.aload_n 0, 1) := by decide +kernel
theorem dX3_wouldCost_18 : decode cX3_wouldCost 18 = .ok (.getfield 44, 3) := by decide +kernel
theorem dX3_wouldCost_21 : decode cX3_wouldCost 21 = .ok (.ifCond .ne 12, 3) := by decide +kernel
theorem dX3_wouldCost_24 : decode cX3_wouldCost 24 = .ok (.aload_n 0, 1) := by decide +kernel
theorem dX3_wouldCost_25 : decode cX3_wouldCost 25 = .ok (.iload_n 1, 1) := by decide +kernel
theorem dX3_wouldCost_26 : decode cX3_wouldCost 26 = .ok (.iload_n 2, 1) := by decide +kernel
theorem dX3_wouldCost_27 : decode cX3_wouldCost 27 = .ok (.invokevirtual 111, 3) := by decide +kernel
theorem dX3_wouldCost_30 : decode cX3_wouldCost 30 = .ok (.goto 4, 3) := by decide +kernel
theorem dX3_wouldCost_33 : decode cX3_wouldCost 33 = .ok (.iconst 0, 1) := by decide +kernel
theorem dX3_wouldCost_34 : decode cX3_wouldCost 34 = .ok (.ireturn, 1) := by decide +kernel
set_option maxRecDepth 20000 in
theorem ggX3_bestPlaces_X3_tried : GoodIn wsX3_bestPlaces wsX3_tried := goodIn_r _ [7, 2, 8, 9, 10, 11, 12, 13, 14, 15, 6, 16, 17, 18, 19, 20, 21, 22, 23, 24, 25, 26, 27, 28, 29, 30, 31, 32, 33, 34, 35, 36, 37, 38, 39, 40, 41, 42, 43, 44, 45, 46, 47, 48, 49, 50, 51, 52, 53, 54, 55, 56, 57, 58, 59, 60, 61, 62, 63, 64, 65, 66] (by decide +kernel) (by decide +kernel)
set_option maxRecDepth 20000 in
theorem gX3_bestPlaces_X3_tried : GoodIn wsX3_bestPlaces (wsV RX3 111 RX3 yX3_tried wsX3_tried) := goodIn_app (goodIn_of _ (by decide +kernel)) ggX3_bestPlaces_X3_tried
theorem dX3_bestPlaces_0 : decode cX3_bestPlaces 0 = .ok (.aload_n 0, 1) := by decide +kernel
theorem dX3_bestPlaces_1 : decode cX3_bestPlaces 1 = .ok (.iconst 0, 1) := by decide +kernel
theorem dX3_bestPlaces_2 : decode cX3_bestPlaces 2 = .ok (.putfield 44, 3) := by decide +kernel
theorem dX3_bestPlaces_5 : decode cX3_bestPlaces 5 = .ok (.iconst 0, 1) := by decide +kernel
theorem dX3_bestPlaces_6 : decode cX3_bestPlaces 6 = .ok (.istore_n 1, 1) := by decide +kernel
theorem dX3_bestPlaces_7 : decode cX3_bestPlaces 7 = .ok (.aload_n 0, 1) := by decide +kernel
theorem dX3_bestPlaces_8 : decode cX3_bestPlaces 8 = .ok (.aload_n 0, 1) := by decide +kernel
theorem dX3_bestPlaces_9 : decode cX3_bestPlaces 9 = .ok (.getfield 16, 3) := by decide +kernel
theorem dX3_bestPlaces_12 : decode cX3_bestPlaces 12 = .ok (.iconst 0, 1) := by decide +kernel
theorem dX3_bestPlaces_13 : decode cX3_bestPlaces 13 = .ok (.iaload, 1) := by decide +kernel
theorem dX3_bestPlaces_14 : decode cX3_bestPlaces 14 = .ok (.iconst 0, 1) := by decide +kernel
theorem dX3_bestPlaces_15 : decode cX3_bestPlaces 15 = .ok (.invokevirtual 111, 3) := by decide +kernel
theorem dX3_bestPlaces_18 : decode cX3_bestPlaces 18 = .ok (.istore_n 2, 1) := by decide +kernel
theorem dX3_bestPlaces_19 : decode cX3_bestPlaces 19 = .ok (.iconst 1, 1) := by decide +kernel
theorem dX3_bestPlaces_20 : decode cX3_bestPlaces 20 = .ok (.istore_n 3, 1) := by decide +kernel
theorem dX3_bestPlaces_21 : decode cX3_bestPlaces 21 = .ok (.iload_n 3, 1) := by decide +kernel
theorem dX3_bestPlaces_22 : decode cX3_bestPlaces 22 = .ok (.bipush 8, 2) := by decide +kernel
theorem dX3_bestPlaces_24 : decode cX3_bestPlaces 24 = .ok (.if_icmp .gt 47, 3) := by decide +kernel
theorem dX3_bestPlaces_27 : decode cX3_bestPlaces 27 = .ok (.aload_n 0, 1) := by decide +kernel
theorem dX3_bestPlaces_28 : decode cX3_bestPlaces 28 = .ok (.aload_n 0, 1) := by decide +kernel
theorem dX3_bestPlaces_29 : decode cX3_bestPlaces 29 = .ok (.getfield 16, 3) := by decide +kernel
theorem dX3_bestPlaces_32 : decode cX3_bestPlaces 32 = .ok (.iconst 0, 1) := by decide +kernel
theorem dX3_bestPlaces_33 : decode cX3_bestPlaces 33 = .ok (.iaload, 1) := by decide +kernel
theorem dX3_bestPlaces_34 : decode cX3_bestPlaces 34 = .ok (.iload_n 3, 1) := by decide +kernel
theorem dX3_bestPlaces_35 : decode cX3_bestPlaces 35 = .ok (.invokevirtual 111, 3) := by decide +kernel
theorem dX3_bestPlaces_38 : decode cX3_bestPlaces 38 = .ok (.istore 4, 2) := by decide +kernel
theorem dX3_bestPlaces_40 : decode cX3_bestPlaces 40 = .ok (.iload 4, 2) := by decide +kernel
theorem dX3_bestPlaces_42 : decode cX3_bestPlaces 42 = .ok (.iload_n 2, 1) := by decide +kernel
theorem dX3_bestPlaces_43 : decode cX3_bestPlaces 43 = .ok (.if_icmp .ge 7, 3) := by decide +kernel
theorem dX3_bestPlaces_46 : decode cX3_bestPlaces 46 = .ok (.iload_n 3, 1) := by decide +kernel
theorem dX3_bestPlaces_47 : decode cX3_bestPlaces 47 = .ok (.goto 4, 3) := by decide +kernel
theorem dX3_bestPlaces_50 : decode cX3_bestPlaces 50 = .ok (.iload_n 1, 1) := by decide +kernel
theorem dX3_bestPlaces_51 : decode cX3_bestPlaces 51 = .ok (.istore_n 1, 1) := by decide +kernel
theorem dX3_bestPlaces_52 : decode cX3_bestPlaces 52 = .ok (.iload 4, 2) := by decide +kernel
theorem dX3_bestPlaces_54 : decode cX3_bestPlaces 54 = .ok (.iload_n 2, 1) := by decide +kernel
theorem dX3_bestPlaces_55 : decode cX3_bestPlaces 55 = .ok (.if_icmp .ge 8, 3) := by decide +kernel
theorem dX3_bestPlaces_58 : decode cX3_bestPlaces 58 = .ok (.iload 4, 2) := by decide +kernel
theorem dX3_bestPlaces_60 : decode cX3_bestPlaces 60 = .ok (.goto 4, 3) := by decide +kernel
theorem dX3_bestPlaces_63 : decode cX3_bestPlaces 63 = .ok (.iload_n 2, 1) := by decide +kernel
theorem dX3_bestPlaces_64 : decode cX3_bestPlaces 64 = .ok (.istore_n 2, 1) := by decide +kernel
theorem dX3_bestPlaces_65 : decode cX3_bestPlaces 65 = .ok (.iinc 3 1, 3) := by decide +kernel
theorem dX3_bestPlaces_68 : decode cX3_bestPlaces 68 = .ok (.goto (-47), 3) := by decide +kernel
theorem dX3_bestPlaces_71 : decode cX3_bestPlaces 71 = .ok (.iload_n 1, 1) := by decide +kernel
theorem dX3_bestPlaces_72 : decode cX3_bestPlaces 72 = .ok (.ireturn, 1) := by decide +kernel
theorem dJ9_floorMod_7cf53_0 : decode cJ9_floorMod_7cf53 0 = .ok (.iload_n 0, 1) := by decide +kernel
theorem dJ9_floorMod_7cf53_1 : decode cJ9_floorMod_7cf53 1 = .ok (.iload_n 1, 1) := by decide +kernel
theorem dJ9_floorMod_7cf53_2 : decode cJ9_floorMod_7cf53 2 = .ok (.irem, 1) := by decide +kernel
theorem dJ9_floorMod_7cf53_3 : decode cJ9_floorMod_7cf53 3 = .ok (.istore_n 2, 1) := by decide +kernel
theorem dJ9_floorMod_7cf53_4 : decode cJ9_floorMod_7cf53 4 = .ok (.iload_n 0, 1) := by decide +kernel
theorem dJ9_floorMod_7cf53_5 : decode cJ9_floorMod_7cf53 5 = .ok (.iload_n 1, 1) := by decide +kernel
theorem dJ9_floorMod_7cf53_6 : decode cJ9_floorMod_7cf53 6 = .ok (.ixor, 1) := by decide +kernel
theorem dJ9_floorMod_7cf53_7 : decode cJ9_floorMod_7cf53 7 = .ok (.ifCond .ge 11, 3) := by decide +kernel
theorem dJ9_floorMod_7cf53_10 : decode cJ9_floorMod_7cf53 10 = .ok (.iload_n 2, 1) := by decide +kernel
theorem dJ9_floorMod_7cf53_11 : decode cJ9_floorMod_7cf53 11 = .ok (.ifCond .eq 7, 3) := by decide +kernel
theorem dJ9_floorMod_7cf53_14 : decode cJ9_floorMod_7cf53 14 = .ok (.iload_n 2, 1) := by decide +kernel
theorem dJ9_floorMod_7cf53_15 : decode cJ9_floorMod_7cf53 15 = .ok (.iload_n 1, 1) := by decide +kernel
theorem dJ9_floorMod_7cf53_16 : decode cJ9_floorMod_7cf53 16 = .ok (.iadd, 1) := by decide +kernel
theorem dJ9_floorMod_7cf53_17 : decode cJ9_floorMod_7cf53 17 = .ok (.ireturn, 1) := by decide +kernel
theorem dJ9_floorMod_7cf53_18 : decode cJ9_floorMod_7cf53 18 = .ok (.iload_n 2, 1) := by decide +kernel
theorem dJ9_floorMod_7cf53_19 : decode cJ9_floorMod_7cf53 19 = .ok (.ireturn, 1) := by decide +kernel
theorem dJ7_fill_53178_0 : decode cJ7_fill_53178 0 = .ok (.iconst 0, 1) := by decide +kernel
theorem dJ7_fill_53178_1 : decode cJ7_fill_53178 1 = .ok (.istore_n 2, 1) := by decide +kernel
theorem dJ7_fill_53178_2 : decode cJ7_fill_53178 2 = .ok (.aload_n 0, 1) := by decide +kernel
theorem dJ7_fill_53178_3 : decode cJ7_fill_53178 3 = .ok (.arraylength, 1) := by decide +kernel
theorem dJ7_fill_53178_4 : decode cJ7_fill_53178 4 = .ok (.istore_n 3, 1) := by decide +kernel
theorem dJ7_fill_53178_5 : decode cJ7_fill_53178 5 = .ok (.iload_n 2, 1) := by decide +kernel
theorem dJ7_fill_53178_6 : decode cJ7_fill_53178 6 = .ok (.iload_n 3, 1) := by decide +kernel
theorem dJ7_fill_53178_7 : decode cJ7_fill_53178 7 = .ok (.if_icmp .ge 13, 3) := by decide +kernel
theorem dJ7_fill_53178_10 : decode cJ7_fill_53178 10 = .ok (.aload_n 0, 1) := by decide +kernel
theorem dJ7_fill_53178_11 : decode cJ7_fill_53178 11 = .ok (.iload_n 2, 1) := by decide +kernel
theorem dJ7_fill_53178_12 : decode cJ7_fill_53178 12 = .ok (.iload_n 1, 1) := by decide +kernel
theorem dJ7_fill_53178_13 : decode cJ7_fill_53178 13 = .ok (.iastore, 1) := by decide +kernel
theorem dJ7_fill_53178_14 : decode cJ7_fill_53178 14 = .ok (.iinc 2 1, 3) := by decide +kernel
theorem dJ7_fill_53178_17 : decode cJ7_fill_53178 17 = .ok (.goto (-12), 3) := by decide +kernel
theorem dJ7_fill_53178_20 : decode cJ7_fill_53178 20 = .ok (.return_, 1) := by decide +kernel
end
section
set_option maxRecDepth 20000 in
theorem ggL_read_X2_read : GoodIn wsL_read wsX2_read := goodIn_ca (goodIn_r _ [6, 7, 8, 9, 5, 10, 11, 12, 13, 14, 15, 16, 17, 18, 19, 20, 21, 22, 23, 24, 25, 26, 27, 28, 29, 30, 31, 32, 33, 34, 35, 36, 37, 38, 39, 40, 41, 42, 43, 44, 45, 46, 47, 48, 49, 50, 51, 52, 53, 54, 55, 56, 57, 58, 59, 60, 61, 62, 63, 64, 65, 66, 67, 68, 69, 70, 71, 72, 73, 74, 75, 76, 77, 78, 79, 80, 81, 82, 83, 84, 85, 86] (by decide +kernel) (by decide +kernel)) (goodIn_sub (fun _ h => List.mem_cons_of_mem _ (List.mem_append_right _ h)) (by decide +kernel))
set_option maxRecDepth 20000 in
theorem gL_read_X2_read : GoodIn wsL_read (wsV RL 7 RX2 yX2_read wsX2_read) := goodIn_app (goodIn_of _ (by decide +kernel)) ggL_read_X2_read
theorem dL_read_0 : decode cL_read 0 = .ok (.aload_n 2, 1) := by decide +kernel
theorem dL_read_1 : decode cL_read 1 = .ok (.iconst 0, 1) := by decide +kernel
theorem dL_read_2 : decode cL_read 2 = .ok (.aload_n 0, 1) := by decide +kernel
theorem dL_read_3 : decode cL_read 3 = .ok (.iload_n 1, 1) := by decide +kernel
theorem dL_read_4 : decode cL_read 4 = .ok (.invokevirtual 7, 3) := by decide +kernel
theorem dL_read_7 : decode cL_read 7 = .ok (.i2l, 1) := by decide +kernel
theorem dL_read_8 : decode cL_read 8 = .ok (.lastore, 1) := by decide +kernel
theorem dL_read_9 : decode cL_read 9 = .ok (.goto 6, 3) := by decide +kernel
theorem dL_read_12 : decode cL_read 12 = .ok (.astore_n 3, 1) := by decide +kernel
theorem dL_read_13 : decode cL_read 13 = .ok (.iconst 1, 1) := by decide +kernel
theorem dL_read_14 : decode cL_read 14 = .ok (.ireturn, 1) := by decide +kernel
theorem dL_read_15 : decode cL_read 15 = .ok (.iconst 0, 1) := by decide +kernel
theorem dL_read_16 : decode cL_read 16 = .ok (.ireturn, 1) := by decide +kernel
set_option maxRecDepth 20000 in
theorem ggL_write_X2_write : GoodIn wsL_write wsX2_write := goodIn_ca (goodIn_r _ [6, 7, 8, 9, 10, 11, 5, 12, 13, 14, 15, 16, 17, 18, 19, 20, 21, 22, 23, 24, 25, 26, 27, 28, 29, 30, 31, 32, 33, 34, 35, 36, 37, 38, 39, 40, 41, 42, 43, 44, 45, 46, 47, 48, 49, 50, 51, 52, 53, 54, 55, 56, 57, 58, 59, 60, 61, 62, 63, 64, 65, 66, 67, 68, 69, 70, 71, 72, 73, 74, 75, 76, 77, 78, 79, 80, 81, 82, 83, 84, 85, 86, 87, 88, 89, 90, 91, 92, 93, 94, 95, 96] (by decide +kernel) (by decide +kernel)) (goodIn_sub (fun _ h => List.mem_cons_of_mem _ (List.mem_append_right _ h)) (by decide +kernel))
set_option maxRecDepth 20000 in
theorem gL_write_X2_write : GoodIn wsL_write (wsV RL 15 RX2 yX2_write wsX2_write) := goodIn_app (goodIn_of _ (by decide +kernel)) ggL_write_X2_write
theorem dL_write_0 : decode cL_write 0 = .ok (.aload_n 3, 1) := by decide +kernel
theorem dL_write_1 : decode cL_write 1 = .ok (.iconst 0, 1) := by decide +kernel
theorem dL_write_2 : decode cL_write 2 = .ok (.aload_n 0, 1) := by decide +kernel
theorem dL_write_3 : decode cL_write 3 = .ok (.iload_n 1, 1) := by decide +kernel
theorem dL_write_4 : decode cL_write 4 = .ok (.iload_n 2, 1) := by decide +kernel
theorem dL_write_5 : decode cL_write 5 = .ok (.invokevirtual 15, 3) := by decide +kernel
theorem dL_write_8 : decode cL_write 8 = .ok (.i2l, 1) := by decide +kernel
theorem dL_write_9 : decode cL_write 9 = .ok (.lastore, 1) := by decide +kernel
theorem dL_write_10 : decode cL_write 10 = .ok (.goto 7, 3) := by decide +kernel
theorem dL_write_13 : decode cL_write 13 = .ok (.astore 4, 2) := by decide +kernel
theorem dL_write_15 : decode cL_write 15 = .ok (.iconst 1, 1) := by decide +kernel
theorem dL_write_16 : decode cL_write 16 = .ok (.ireturn, 1) := by decide +kernel
theorem dL_write_17 : decode cL_write 17 = .ok (.iconst 0, 1) := by decide +kernel
theorem dL_write_18 : decode cL_write 18 = .ok (.ireturn, 1) := by decide +kernel
set_option maxRecDepth 20000 in
theorem ggL_walk_X2_walk : GoodIn wsL_walk wsX2_walk := goodIn_ca (goodIn_ca (goodIn_r _ [7, 8, 9, 10, 11, 12, 13, 6, 14, 15, 16, 17, 18, 19, 20, 21, 22, 23, 24, 25, 26, 27, 28, 29, 30, 31, 32, 33, 34, 35, 36, 37, 38, 39, 40, 41, 42, 43, 44, 45, 46, 47, 48, 49, 50, 51, 52, 53, 54, 55, 56, 57, 58, 59, 60, 61, 62, 63, 64, 65, 66, 67, 68, 69, 70, 71, 72, 73, 74, 75, 76, 77, 78, 79, 80, 81, 82, 83, 84, 85, 86, 87, 88, 89, 90, 91, 92, 93] (by decide +kernel) (by decide +kernel)) (goodIn_sub (fun _ h => List.mem_cons_of_mem _ (List.mem_append_left _ (List.mem_append_right _ h))) (by decide +kernel))) (goodIn_sub (fun _ h => List.mem_cons_of_mem _ (List.mem_append_right _ h)) (by decide +kernel))
set_option maxRecDepth 20000 in
theorem gL_walk_X2_walk : GoodIn wsL_walk (wsV RL 19 RX2 yX2_walk wsX2_walk) := goodIn_app (goodIn_of _ (by decide +kernel)) ggL_walk_X2_walk
theorem dL_walk_0 : decode cL_walk 0 = .ok (.aload 4, 2) := by decide +kernel
theorem dL_walk_2 : decode cL_walk 2 = .ok (.iconst 0, 1) := by decide +kernel
theorem dL_walk_3 : decode cL_walk 3 = .ok (.aload_n 0, 1) := by decide +kernel
theorem dL_walk_4 : decode cL_walk 4 = .ok (.iload_n 1, 1) := by decide +kernel
theorem dL_walk_5 : decode cL_walk 5 = .ok (.iload_n 2, 1) := by decide +kernel
theorem dL_walk_6 : decode cL_walk 6 = .ok (.iload_n 3, 1) := by decide +kernel
theorem dL_walk_7 : decode cL_walk 7 = .ok (.invokevirtual 19, 3) := by decide +kernel
theorem dL_walk_10 : decode cL_walk 10 = .ok (.i2l, 1) := by decide +kernel
theorem dL_walk_11 : decode cL_walk 11 = .ok (.lastore, 1) := by decide +kernel
theorem dL_walk_12 : decode cL_walk 12 = .ok (.goto 11, 3) := by decide +kernel
theorem dL_walk_15 : decode cL_walk 15 = .ok (.astore 5, 2) := by decide +kernel
theorem dL_walk_17 : decode cL_walk 17 = .ok (.iconst 1, 1) := by decide +kernel
theorem dL_walk_18 : decode cL_walk 18 = .ok (.ireturn, 1) := by decide +kernel
theorem dL_walk_19 : decode cL_walk 19 = .ok (.astore 5, 2) := by decide +kernel
theorem dL_walk_21 : decode cL_walk 21 = .ok (.iconst 2, 1) := by decide +kernel
theorem dL_walk_22 : decode cL_walk 22 = .ok (.ireturn, 1) := by decide +kernel
theorem dL_walk_23 : decode cL_walk 23 = .ok (.iconst 0, 1) := by decide +kernel
theorem dL_walk_24 : decode cL_walk 24 = .ok (.ireturn, 1) := by decide +kernel
set_option maxRecDepth 20000 in
theorem ggL_build_X2_build : GoodIn wsL_build wsX2_build := goodIn_ca (goodIn_r _ [6, 7, 8, 9, 5, 10, 11, 12, 13, 14, 15, 16, 17, 18, 19, 20, 21, 22, 23, 24, 25, 26, 27, 28, 29, 30, 31, 32, 33, 34, 35, 36, 37, 38, 39, 40, 41, 42, 43, 44, 45, 46, 47, 48, 49, 50, 51, 52, 53, 54, 55, 56, 57] (by decide +kernel) (by decide +kernel)) (goodIn_sub (fun _ h => List.mem_cons_of_mem _ (List.mem_append_right _ h)) (by decide +kernel))
set_option maxRecDepth 20000 in
theorem gL_build_X2_build : GoodIn wsL_build (wsV RL 25 RX2 yX2_build wsX2_build) := goodIn_app (goodIn_of _ (by decide +kernel)) ggL_build_X2_build
theorem dL_build_0 : decode cL_build 0 = .ok (.aload_n 3, 1) := by decide +kernel
theorem dL_build_1 : decode cL_build 1 = .ok (.iconst 0, 1) := by decide +kernel
theorem dL_build_2 : decode cL_build 2 = .ok (.aload_n 0, 1) := by decide +kernel
theorem dL_build_3 : decode cL_build 3 = .ok (.iload_n 1, 1) := by decide +kernel
theorem dL_build_4 : decode cL_build 4 = .ok (.iload_n 2, 1) := by decide +kernel
theorem dL_build_5 : decode cL_build 5 = .ok (.invokevirtual 25, 3) := by decide +kernel
theorem dL_build_8 : decode cL_build 8 = .ok (.i2l, 1) := by decide +kernel
theorem dL_build_9 : decode cL_build 9 = .ok (.lastore, 1) := by decide +kernel
theorem dL_build_10 : decode cL_build 10 = .ok (.goto 7, 3) := by decide +kernel
theorem dL_build_13 : decode cL_build 13 = .ok (.astore 4, 2) := by decide +kernel
theorem dL_build_15 : decode cL_build 15 = .ok (.iconst 1, 1) := by decide +kernel
theorem dL_build_16 : decode cL_build 16 = .ok (.ireturn, 1) := by decide +kernel
theorem dL_build_17 : decode cL_build 17 = .ok (.iconst 0, 1) := by decide +kernel
theorem dL_build_18 : decode cL_build 18 = .ok (.ireturn, 1) := by decide +kernel
set_option maxRecDepth 20000 in
theorem ggL_cast_X2_cast : GoodIn wsL_cast wsX2_cast := goodIn_ca (goodIn_ca (goodIn_r _ [7, 8, 9, 10, 11, 12, 13, 14, 6, 15, 16, 17, 18, 19, 20, 21, 22, 23, 24, 25, 26, 27, 28, 29, 30, 31, 32, 33, 34, 35, 36, 37, 38, 39, 40, 41, 42, 43, 44, 45, 46, 47, 48, 49, 50, 51, 52, 53, 54] (by decide +kernel) (by decide +kernel)) (goodIn_sub (fun _ h => List.mem_cons_of_mem _ (List.mem_append_left _ (List.mem_append_right _ h))) (by decide +kernel))) (goodIn_sub (fun _ h => List.mem_cons_of_mem _ (List.mem_append_right _ h)) (by decide +kernel))
set_option maxRecDepth 20000 in
theorem gL_cast_X2_cast : GoodIn wsL_cast (wsV RL 28 RX2 yX2_cast wsX2_cast) := goodIn_app (goodIn_of _ (by decide +kernel)) ggL_cast_X2_cast
theorem dL_cast_0 : decode cL_cast 0 = .ok (.aload_n 2, 1) := by decide +kernel
theorem dL_cast_1 : decode cL_cast 1 = .ok (.iconst 0, 1) := by decide +kernel
theorem dL_cast_2 : decode cL_cast 2 = .ok (.aload_n 0, 1) := by decide +kernel
theorem dL_cast_3 : decode cL_cast 3 = .ok (.iload_n 1, 1) := by decide +kernel
theorem dL_cast_4 : decode cL_cast 4 = .ok (.invokevirtual 28, 3) := by decide +kernel
theorem dL_cast_7 : decode cL_cast 7 = .ok (.i2l, 1) := by decide +kernel
theorem dL_cast_8 : decode cL_cast 8 = .ok (.lastore, 1) := by decide +kernel
theorem dL_cast_9 : decode cL_cast 9 = .ok (.goto 9, 3) := by decide +kernel
theorem dL_cast_12 : decode cL_cast 12 = .ok (.astore_n 3, 1) := by decide +kernel
theorem dL_cast_13 : decode cL_cast 13 = .ok (.iconst 1, 1) := by decide +kernel
theorem dL_cast_14 : decode cL_cast 14 = .ok (.ireturn, 1) := by decide +kernel
theorem dL_cast_15 : decode cL_cast 15 = .ok (.astore_n 3, 1) := by decide +kernel
theorem dL_cast_16 : decode cL_cast 16 = .ok (.iconst 2, 1) := by decide +kernel
theorem dL_cast_17 : decode cL_cast 17 = .ok (.ireturn, 1) := by decide +kernel
theorem dL_cast_18 : decode cL_cast 18 = .ok (.iconst 0, 1) := by decide +kernel
theorem dL_cast_19 : decode cL_cast 19 = .ok (.ireturn, 1) := by decide +kernel
set_option maxRecDepth 20000 in
theorem ggL_lineIn_X2_lineIn : GoodIn wsL_lineIn wsX2_lineIn := goodIn_ca (goodIn_r _ [6, 7, 8, 9, 10, 11, 5, 12, 13, 14, 15, 16, 17, 18, 19, 20, 21, 22, 23, 24, 25, 26, 27, 28, 29, 30, 31] (by decide +kernel) (by decide +kernel)) (goodIn_sub (fun _ h => List.mem_cons_of_mem _ (List.mem_append_right _ h)) (by decide +kernel))
set_option maxRecDepth 20000 in
theorem gL_lineIn_X2_lineIn : GoodIn wsL_lineIn (wsV RL 33 RX2 yX2_lineIn wsX2_lineIn) := goodIn_app (goodIn_of _ (by decide +kernel)) ggL_lineIn_X2_lineIn
theorem dL_lineIn_0 : decode cL_lineIn 0 = .ok (.aload_n 2, 1) := by decide +kernel
theorem dL_lineIn_1 : decode cL_lineIn 1 = .ok (.iconst 0, 1) := by decide +kernel
theorem dL_lineIn_2 : decode cL_lineIn 2 = .ok (.aload_n 0, 1) := by decide +kernel
theorem dL_lineIn_3 : decode cL_lineIn 3 = .ok (.iload_n 1, 1) := by decide +kernel
theorem dL_lineIn_4 : decode cL_lineIn 4 = .ok (.invokevirtual 33, 3) := by decide +kernel
theorem dL_lineIn_7 : decode cL_lineIn 7 = .ok (.i2l, 1) := by decide +kernel
theorem dL_lineIn_8 : decode cL_lineIn 8 = .ok (.lastore, 1) := by decide +kernel
theorem dL_lineIn_9 : decode cL_lineIn 9 = .ok (.goto 6, 3) := by decide +kernel
theorem dL_lineIn_12 : decode cL_lineIn 12 = .ok (.astore_n 3, 1) := by decide +kernel
theorem dL_lineIn_13 : decode cL_lineIn 13 = .ok (.iconst 1, 1) := by decide +kernel
theorem dL_lineIn_14 : decode cL_lineIn 14 = .ok (.ireturn, 1) := by decide +kernel
theorem dL_lineIn_15 : decode cL_lineIn 15 = .ok (.iconst 0, 1) := by decide +kernel
theorem dL_lineIn_16 : decode cL_lineIn 16 = .ok (.ireturn, 1) := by decide +kernel
set_option maxRecDepth 20000 in
theorem ggL_lineOnBench_X2_lineOnBench : GoodIn wsL_lineOnBench wsX2_lineOnBench := goodIn_ca (goodIn_r _ [6, 7, 8, 9, 10, 11, 12, 13, 14, 15, 16, 17, 18, 19, 20, 21, 22, 23, 24, 25, 26, 27] (by decide +kernel) (by decide +kernel)) (goodIn_sub (fun _ h => List.mem_cons_of_mem _ (List.mem_append_right _ h)) (by decide +kernel))
set_option maxRecDepth 20000 in
theorem gL_lineOnBench_X2_lineOnBench : GoodIn wsL_lineOnBench (wsV RL 36 RX2 yX2_lineOnBench wsX2_lineOnBench) := goodIn_app (goodIn_of _ (by decide +kernel)) ggL_lineOnBench_X2_lineOnBench
theorem dL_lineOnBench_0 : decode cL_lineOnBench 0 = .ok (.aload_n 2, 1) := by decide +kernel
theorem dL_lineOnBench_1 : decode cL_lineOnBench 1 = .ok (.iconst 0, 1) := by decide +kernel
theorem dL_lineOnBench_2 : decode cL_lineOnBench 2 = .ok (.aload_n 0, 1) := by decide +kernel
theorem dL_lineOnBench_3 : decode cL_lineOnBench 3 = .ok (.iload_n 1, 1) := by decide +kernel
theorem dL_lineOnBench_4 : decode cL_lineOnBench 4 = .ok (.invokevirtual 36, 3) := by decide +kernel
theorem dL_lineOnBench_7 : decode cL_lineOnBench 7 = .ok (.i2l, 1) := by decide +kernel
theorem dL_lineOnBench_8 : decode cL_lineOnBench 8 = .ok (.lastore, 1) := by decide +kernel
theorem dL_lineOnBench_9 : decode cL_lineOnBench 9 = .ok (.goto 6, 3) := by decide +kernel
theorem dL_lineOnBench_12 : decode cL_lineOnBench 12 = .ok (.astore_n 3, 1) := by decide +kernel
theorem dL_lineOnBench_13 : decode cL_lineOnBench 13 = .ok (.iconst 1, 1) := by decide +kernel
theorem dL_lineOnBench_14 : decode cL_lineOnBench 14 = .ok (.ireturn, 1) := by decide +kernel
theorem dL_lineOnBench_15 : decode cL_lineOnBench 15 = .ok (.iconst 0, 1) := by decide +kernel
theorem dL_lineOnBench_16 : decode cL_lineOnBench 16 = .ok (.ireturn, 1) := by decide +kernel
set_option maxRecDepth 20000 in
theorem ggL_placeOf_X2_placeOf : GoodIn wsL_placeOf wsX2_placeOf := goodIn_ca (goodIn_r _ [6, 7, 8, 9, 5, 10, 11, 12, 13, 14, 15, 16, 17, 18, 19, 20, 21, 22, 23, 24, 25, 26, 27, 28, 29, 30, 31, 32, 33, 34, 35, 36, 37, 38, 39, 40, 41, 42, 43, 44, 45] (by decide +kernel) (by decide +kernel)) (goodIn_sub (fun _ h => List.mem_cons_of_mem _ (List.mem_append_right _ h)) (by decide +kernel))
set_option maxRecDepth 20000 in
theorem gL_placeOf_X2_placeOf : GoodIn wsL_placeOf (wsV RL 39 RX2 yX2_placeOf wsX2_placeOf) := goodIn_app (goodIn_of _ (by decide +kernel)) ggL_placeOf_X2_placeOf
theorem dL_placeOf_0 : decode cL_placeOf 0 = .ok (.aload_n 2, 1) := by decide +kernel
theorem dL_placeOf_1 : decode cL_placeOf 1 = .ok (.iconst 0, 1) := by decide +kernel
theorem dL_placeOf_2 : decode cL_placeOf 2 = .ok (.aload_n 0, 1) := by decide +kernel
theorem dL_placeOf_3 : decode cL_placeOf 3 = .ok (.iload_n 1, 1) := by decide +kernel
theorem dL_placeOf_4 : decode cL_placeOf 4 = .ok (.invokevirtual 39, 3) := by decide +kernel
theorem dL_placeOf_7 : decode cL_placeOf 7 = .ok (.i2l, 1) := by decide +kernel
theorem dL_placeOf_8 : decode cL_placeOf 8 = .ok (.lastore, 1) := by decide +kernel
theorem dL_placeOf_9 : decode cL_placeOf 9 = .ok (.goto 6, 3) := by decide +kernel
theorem dL_placeOf_12 : decode cL_placeOf 12 = .ok (.astore_n 3, 1) := by decide +kernel
theorem dL_placeOf_13 : decode cL_placeOf 13 = .ok (.iconst 1, 1) := by decide +kernel
theorem dL_placeOf_14 : decode cL_placeOf 14 = .ok (.ireturn, 1) := by decide +kernel
theorem dL_placeOf_15 : decode cL_placeOf 15 = .ok (.iconst 0, 1) := by decide +kernel
theorem dL_placeOf_16 : decode cL_placeOf 16 = .ok (.ireturn, 1) := by decide +kernel
set_option maxRecDepth 20000 in
theorem ggL_isDirty_X2_isDirty : GoodIn wsL_isDirty wsX2_isDirty := goodIn_ca (goodIn_r _ [6, 7, 8, 9, 10, 5, 11, 12, 13, 14, 15, 16, 17, 18, 19, 20, 21, 22, 23, 24, 25, 26, 27, 28, 29] (by decide +kernel) (by decide +kernel)) (goodIn_sub (fun _ h => List.mem_cons_of_mem _ (List.mem_append_right _ h)) (by decide +kernel))
set_option maxRecDepth 20000 in
theorem gL_isDirty_X2_isDirty : GoodIn wsL_isDirty (wsV RL 42 RX2 yX2_isDirty wsX2_isDirty) := goodIn_app (goodIn_of _ (by decide +kernel)) ggL_isDirty_X2_isDirty
theorem dL_isDirty_0 : decode cL_isDirty 0 = .ok (.aload_n 2, 1) := by decide +kernel
theorem dL_isDirty_1 : decode cL_isDirty 1 = .ok (.iconst 0, 1) := by decide +kernel
theorem dL_isDirty_2 : decode cL_isDirty 2 = .ok (.aload_n 0, 1) := by decide +kernel
theorem dL_isDirty_3 : decode cL_isDirty 3 = .ok (.iload_n 1, 1) := by decide +kernel
theorem dL_isDirty_4 : decode cL_isDirty 4 = .ok (.invokevirtual 42, 3) := by decide +kernel
theorem dL_isDirty_7 : decode cL_isDirty 7 = .ok (.ifCond .eq 7, 3) := by decide +kernel
theorem dL_isDirty_10 : decode cL_isDirty 10 = .ok (.lconst 1, 1) := by decide +kernel
theorem dL_isDirty_11 : decode cL_isDirty 11 = .ok (.goto 4, 3) := by decide +kernel
theorem dL_isDirty_14 : decode cL_isDirty 14 = .ok (.lconst 0, 1) := by decide +kernel
theorem dL_isDirty_15 : decode cL_isDirty 15 = .ok (.lastore, 1) := by decide +kernel
theorem dL_isDirty_16 : decode cL_isDirty 16 = .ok (.goto 6, 3) := by decide +kernel
theorem dL_isDirty_19 : decode cL_isDirty 19 = .ok (.astore_n 3, 1) := by decide +kernel
theorem dL_isDirty_20 : decode cL_isDirty 20 = .ok (.iconst 1, 1) := by decide +kernel
theorem dL_isDirty_21 : decode cL_isDirty 21 = .ok (.ireturn, 1) := by decide +kernel
theorem dL_isDirty_22 : decode cL_isDirty 22 = .ok (.iconst 0, 1) := by decide +kernel
theorem dL_isDirty_23 : decode cL_isDirty 23 = .ok (.ireturn, 1) := by decide +kernel
set_option maxRecDepth 20000 in
theorem ggL_atHome_X2_atHome : GoodIn wsL_atHome wsX2_atHome := goodIn_ca (goodIn_r _ [6, 7, 8, 9, 10, 11, 12, 5, 13, 14, 15, 16, 17, 18, 19, 20, 21, 22, 23, 24, 25, 26, 27, 28, 29, 30, 31, 32, 33, 34] (by decide +kernel) (by decide +kernel)) (goodIn_sub (fun _ h => List.mem_cons_of_mem _ (List.mem_append_right _ h)) (by decide +kernel))
set_option maxRecDepth 20000 in
theorem gL_atHome_X2_atHome : GoodIn wsL_atHome (wsV RL 46 RX2 yX2_atHome wsX2_atHome) := goodIn_app (goodIn_of _ (by decide +kernel)) ggL_atHome_X2_atHome
theorem dL_atHome_0 : decode cL_atHome 0 = .ok (.aload_n 2, 1) := by decide +kernel
theorem dL_atHome_1 : decode cL_atHome 1 = .ok (.iconst 0, 1) := by decide +kernel
theorem dL_atHome_2 : decode cL_atHome 2 = .ok (.aload_n 0, 1) := by decide +kernel
theorem dL_atHome_3 : decode cL_atHome 3 = .ok (.iload_n 1, 1) := by decide +kernel
theorem dL_atHome_4 : decode cL_atHome 4 = .ok (.invokevirtual 46, 3) := by decide +kernel
theorem dL_atHome_7 : decode cL_atHome 7 = .ok (.i2l, 1) := by decide +kernel
theorem dL_atHome_8 : decode cL_atHome 8 = .ok (.lastore, 1) := by decide +kernel
theorem dL_atHome_9 : decode cL_atHome 9 = .ok (.goto 6, 3) := by decide +kernel
theorem dL_atHome_12 : decode cL_atHome 12 = .ok (.astore_n 3, 1) := by decide +kernel
theorem dL_atHome_13 : decode cL_atHome 13 = .ok (.iconst 1, 1) := by decide +kernel
theorem dL_atHome_14 : decode cL_atHome 14 = .ok (.ireturn, 1) := by decide +kernel
theorem dL_atHome_15 : decode cL_atHome 15 = .ok (.iconst 0, 1) := by decide +kernel
theorem dL_atHome_16 : decode cL_atHome 16 = .ok (.ireturn, 1) := by decide +kernel
set_option maxRecDepth 20000 in
theorem ggL_peek_X2_peek : GoodIn wsL_peek wsX2_peek := goodIn_ca (goodIn_r _ [6, 7, 8, 9, 5, 10, 11, 12, 13, 14, 15, 16, 17] (by decide +kernel) (by decide +kernel)) (goodIn_sub (fun _ h => List.mem_cons_of_mem _ (List.mem_append_right _ h)) (by decide +kernel))
set_option maxRecDepth 20000 in
theorem gL_peek_X2_peek : GoodIn wsL_peek (wsV RL 49 RX2 yX2_peek wsX2_peek) := goodIn_app (goodIn_of _ (by decide +kernel)) ggL_peek_X2_peek
theorem dL_peek_0 : decode cL_peek 0 = .ok (.aload_n 2, 1) := by decide +kernel
theorem dL_peek_1 : decode cL_peek 1 = .ok (.iconst 0, 1) := by decide +kernel
theorem dL_peek_2 : decode cL_peek 2 = .ok (.aload_n 0, 1) := by decide +kernel
theorem dL_peek_3 : decode cL_peek 3 = .ok (.iload_n 1, 1) := by decide +kernel
theorem dL_peek_4 : decode cL_peek 4 = .ok (.invokevirtual 49, 3) := by decide +kernel
theorem dL_peek_7 : decode cL_peek 7 = .ok (.i2l, 1) := by decide +kernel
theorem dL_peek_8 : decode cL_peek 8 = .ok (.lastore, 1) := by decide +kernel
theorem dL_peek_9 : decode cL_peek 9 = .ok (.goto 6, 3) := by decide +kernel
theorem dL_peek_12 : decode cL_peek 12 = .ok (.astore_n 3, 1) := by decide +kernel
theorem dL_peek_13 : decode cL_peek 13 = .ok (.iconst 1, 1) := by decide +kernel
theorem dL_peek_14 : decode cL_peek 14 = .ok (.ireturn, 1) := by decide +kernel
theorem dL_peek_15 : decode cL_peek 15 = .ok (.iconst 0, 1) := by decide +kernel
theorem dL_peek_16 : decode cL_peek 16 = .ok (.ireturn, 1) := by decide +kernel
set_option maxRecDepth 20000 in
theorem ggL_wouldCost_X2_wouldCost : GoodIn wsL_wouldCost wsX2_wouldCost := goodIn_ca (goodIn_r _ [6, 7, 8, 5, 9, 10, 11, 12, 13, 14, 15, 16, 17, 18, 19, 20, 21, 22, 23, 24, 25, 26, 27, 28, 29, 30, 31, 32, 33, 34, 35, 36, 37, 38, 39, 40, 41, 42, 43, 44, 45, 46, 47, 48, 49, 50, 51, 52, 53, 54, 55, 56, 57, 58, 59, 60, 61, 62, 63, 64, 65, 66, 67, 68, 69, 70, 71, 72, 73, 74, 75, 76, 77, 78, 79, 80, 81, 82, 83, 84, 85, 86, 87, 88, 89, 90, 91, 92] (by decide +kernel) (by decide +kernel)) (goodIn_sub (fun _ h => List.mem_cons_of_mem _ (List.mem_append_right _ h)) (by decide +kernel))
set_option maxRecDepth 20000 in
theorem gL_wouldCost_X2_wouldCost : GoodIn wsL_wouldCost (wsV RL 52 RX2 yX2_wouldCost wsX2_wouldCost) := goodIn_app (goodIn_of _ (by decide +kernel)) ggL_wouldCost_X2_wouldCost
theorem dL_wouldCost_0 : decode cL_wouldCost 0 = .ok (.aload_n 3, 1) := by decide +kernel
theorem dL_wouldCost_1 : decode cL_wouldCost 1 = .ok (.iconst 0, 1) := by decide +kernel
theorem dL_wouldCost_2 : decode cL_wouldCost 2 = .ok (.aload_n 0, 1) := by decide +kernel
theorem dL_wouldCost_3 : decode cL_wouldCost 3 = .ok (.iload_n 1, 1) := by decide +kernel
theorem dL_wouldCost_4 : decode cL_wouldCost 4 = .ok (.iload_n 2, 1) := by decide +kernel
theorem dL_wouldCost_5 : decode cL_wouldCost 5 = .ok (.invokevirtual 52, 3) := by decide +kernel
theorem dL_wouldCost_8 : decode cL_wouldCost 8 = .ok (.i2l, 1) := by decide +kernel
theorem dL_wouldCost_9 : decode cL_wouldCost 9 = .ok (.lastore, 1) := by decide +kernel
theorem dL_wouldCost_10 : decode cL_wouldCost 10 = .ok (.goto 7, 3) := by decide +kernel
theorem dL_wouldCost_13 : decode cL_wouldCost 13 = .ok (.astore 4, 2) := by decide +kernel
theorem dL_wouldCost_15 : decode cL_wouldCost 15 = .ok (.iconst 1, 1) := by decide +kernel
theorem dL_wouldCost_16 : decode cL_wouldCost 16 = .ok (.ireturn, 1) := by decide +kernel
theorem dL_wouldCost_17 : decode cL_wouldCost 17 = .ok (.iconst 0, 1) := by decide +kernel
theorem dL_wouldCost_18 : decode cL_wouldCost 18 = .ok (.ireturn, 1) := by decide +kernel
set_option maxRecDepth 20000 in
theorem ggL_law_X2_init : GoodIn wsL_law wsX2_init := goodIn_r _ [9, 10, 11, 12, 13, 14, 15, 16, 17, 18, 19, 20, 21, 22, 23, 24, 25, 26, 27, 28, 29, 30, 31, 32, 33, 34, 35, 36, 37, 38, 39, 40, 41, 42, 43, 44, 45, 46, 47, 48, 472, 473, 474, 475, 476, 493, 494, 495, 496, 497, 498, 499, 500, 501, 502, 503, 504, 505, 506, 507] (by decide +kernel) (by decide +kernel)
set_option maxRecDepth 20000 in
theorem gL_law_X2_init : GoodIn wsL_law (wsX2_init) := ggL_law_X2_init
set_option maxRecDepth 20000 in
theorem ggL_law_X3_init : GoodIn wsL_law wsX3_init := goodIn_r _ [51, 52, 11, 12, 13, 53, 54, 55, 56, 57, 58, 59, 60, 61, 62, 63, 64, 65, 5, 66, 477, 478, 479, 480, 481, 482, 483, 484, 485, 486, 487, 488, 489, 490, 491, 492] (by decide +kernel) (by decide +kernel)
set_option maxRecDepth 20000 in
theorem gL_law_X3_init : GoodIn wsL_law (wsX3_init) := ggL_law_X3_init
set_option maxRecDepth 20000 in
theorem ggL_law_L_read : GoodIn wsL_law wsL_read := goodIn_ca (goodIn_r _ [70, 71, 72, 73, 74, 2, 75, 14, 76, 77, 78, 79, 80, 81, 82, 83, 84, 85, 86, 87, 19, 24, 88, 89, 90, 18, 91, 29, 92, 93, 94, 95, 32, 96, 97, 98, 99, 37, 100, 101, 102, 103, 39, 30, 104, 105, 106, 107, 108, 109, 110, 111, 38, 112, 113, 114, 115, 116, 117, 118, 119, 23, 120, 47, 121, 48, 122, 472, 473, 474, 475, 476, 493, 494, 495, 496, 497, 498, 499, 500, 501, 502, 503, 504, 505, 506, 507] (by decide +kernel) (by decide +kernel)) (goodIn_sub (fun _ h => List.mem_append_left _ (List.mem_append_left _ (List.mem_append_right _ h))) (by decide +kernel))
set_option maxRecDepth 20000 in
theorem gL_law_L_read : GoodIn wsL_law (va_wsS RL 59 yL_read wsL_read) := goodIn_app (goodIn_of _ (by decide +kernel)) ggL_law_L_read
set_option maxRecDepth 20000 in
theorem ggL_law_X3_read : GoodIn wsL_law wsX3_read := goodIn_r _ [126, 127, 53, 128, 129, 5, 130, 131, 132, 133, 134, 135, 136, 137, 60, 138, 62, 139, 140, 141, 142, 55, 57, 61, 143, 144, 145, 146, 59, 58, 147, 148, 149, 150, 151, 152, 153, 154, 155, 156, 157, 158, 56, 159, 160, 161, 162, 163, 164, 165, 166, 54, 167, 477, 478, 479, 480, 481, 482, 483, 484, 485, 486, 487, 488, 489, 490, 491, 492] (by decide +kernel) (by decide +kernel)
set_option maxRecDepth 20000 in
theorem gL_law_X3_read : GoodIn wsL_law (wsV RL 64 RX3 yX3_read wsX3_read) := goodIn_app (goodIn_of _ (by decide +kernel)) ggL_law_X3_read
set_option maxRecDepth 20000 in
theorem ggL_law_X3_thrown : GoodIn wsL_law wsX3_thrown := goodIn_r _ [171, 127, 477, 478, 479, 480, 481, 482, 483, 484, 485, 486, 487, 488, 489, 490, 491, 492] (by decide +kernel) (by decide +kernel)
set_option maxRecDepth 20000 in
theorem gL_law_X3_thrown : GoodIn wsL_law (wsV RL 65 RX3 yX3_thrown wsX3_thrown) := goodIn_app (goodIn_of _ (by decide +kernel)) ggL_law_X3_thrown
set_option maxRecDepth 20000 in
theorem ggL_law_L_write : GoodIn wsL_law wsL_write := goodIn_ca (goodIn_r _ [174, 71, 175, 176, 177, 2, 178, 19, 179, 14, 76, 77, 78, 79, 80, 81, 82, 83, 180, 181, 182, 183, 15, 184, 185, 186, 187, 84, 85, 86, 87, 24, 88, 89, 90, 18, 91, 29, 92, 93, 94, 95, 32, 96, 97, 98, 99, 37, 100, 101, 102, 103, 39, 30, 104, 105, 106, 107, 108, 109, 110, 111, 38, 112, 113, 114, 115, 116, 117, 118, 119, 23, 120, 47, 121, 48, 122, 472, 473, 474, 475, 476, 493, 494, 495, 496, 497, 498, 499, 500, 501, 502, 503, 504, 505, 506, 507] (by decide +kernel) (by decide +kernel)) (goodIn_sub (fun _ h => List.mem_append_left _ (List.mem_append_left _ (List.mem_append_right _ h))) (by decide +kernel))
set_option maxRecDepth 20000 in
theorem gL_law_L_write : GoodIn wsL_law (va_wsS RL 69 yL_write wsL_write) := goodIn_app (goodIn_of _ (by decide +kernel)) ggL_law_L_write
set_option maxRecDepth 20000 in
theorem ggL_law_X3_write : GoodIn wsL_law wsX3_write := goodIn_r _ [191, 127, 53, 128, 129, 5, 130, 131, 132, 133, 134, 135, 136, 137, 60, 138, 62, 139, 140, 141, 142, 55, 57, 61, 143, 144, 145, 146, 59, 58, 147, 148, 149, 150, 151, 152, 153, 154, 155, 156, 157, 158, 56, 159, 160, 161, 162, 163, 164, 165, 166, 54, 167, 477, 478, 479, 480, 481, 482, 483, 484, 485, 486, 487, 488, 489, 490, 491, 492] (by decide +kernel) (by decide +kernel)
set_option maxRecDepth 20000 in
theorem gL_law_X3_write : GoodIn wsL_law (wsV RL 72 RX3 yX3_write wsX3_write) := goodIn_app (goodIn_of _ (by decide +kernel)) ggL_law_X3_write
set_option maxRecDepth 20000 in
theorem ggL_law_L_walk : GoodIn wsL_law wsL_walk := goodIn_ca (goodIn_ca (goodIn_r _ [194, 71, 195, 196, 197, 198, 2, 199, 200, 201, 19, 202, 76, 77, 78, 79, 80, 81, 82, 83, 84, 85, 86, 87, 24, 88, 89, 90, 18, 91, 29, 92, 93, 94, 95, 32, 96, 97, 98, 99, 37, 100, 101, 102, 103, 39, 30, 104, 105, 106, 107, 108, 109, 110, 111, 38, 112, 113, 114, 115, 116, 117, 118, 119, 23, 120, 47, 121, 48, 122, 203, 204, 205, 206, 472, 473, 474, 475, 476, 493, 494, 495, 496, 497, 498, 499, 500, 501, 502, 503, 504, 505, 506, 507] (by decide +kernel) (by decide +kernel)) (goodIn_sub (fun _ h => List.mem_append_left _ (List.mem_append_right _ h)) (by decide +kernel))) (goodIn_sub (fun _ h => List.mem_append_left _ (List.mem_append_left _ (List.mem_append_right _ h))) (by decide +kernel))
set_option maxRecDepth 20000 in
theorem gL_law_L_walk : GoodIn wsL_law (va_wsS RL 73 yL_walk wsL_walk) := goodIn_app (goodIn_of _ (by decide +kernel)) ggL_law_L_walk
set_option maxRecDepth 20000 in
theorem ggL_law_X3_walk : GoodIn wsL_law wsX3_walk := goodIn_r _ [210, 127, 61, 128, 129, 5, 130, 131, 132, 133, 134, 135, 136, 137, 60, 138, 62, 139, 140, 141, 142, 55, 57, 143, 144, 145, 146, 59, 58, 147, 148, 149, 150, 151, 152, 153, 154, 155, 156, 157, 158, 56, 159, 160, 161, 162, 163, 164, 165, 166, 54, 53, 167, 477, 478, 479, 480, 481, 482, 483, 484, 485, 486, 487, 488, 489, 490, 491, 492] (by decide +kernel) (by decide +kernel)
set_option maxRecDepth 20000 in
theorem gL_law_X3_walk : GoodIn wsL_law (wsV RL 76 RX3 yX3_walk wsX3_walk) := goodIn_app (goodIn_of _ (by decide +kernel)) ggL_law_X3_walk
set_option maxRecDepth 20000 in
theorem ggL_law_X2_bringHome : GoodIn wsL_law wsX2_bringHome := goodIn_r _ [214, 19, 215, 216, 217, 18, 218, 116, 37, 29, 39, 30, 112, 113, 114, 115, 32, 93, 472, 473, 474, 475, 476, 493, 494, 495, 496, 497, 498, 499, 500, 501, 502, 503] (by decide +kernel) (by decide +kernel)
set_option maxRecDepth 20000 in
theorem gL_law_X2_bringHome : GoodIn wsL_law (wsV RL 77 RX2 yX2_bringHome wsX2_bringHome) := goodIn_app (goodIn_of _ (by decide +kernel)) ggL_law_X2_bringHome
set_option maxRecDepth 20000 in
theorem ggL_law_X3_bringHome : GoodIn wsL_law wsX3_bringHome := goodIn_r _ [222, 127, 223, 224, 225, 5, 226, 60, 163, 164, 165, 166, 61, 54, 53, 167, 477, 478, 479, 480, 481, 482, 483, 484, 485, 486, 487, 488, 489, 490, 491, 492] (by decide +kernel) (by decide +kernel)
set_option maxRecDepth 20000 in
theorem gL_law_X3_bringHome : GoodIn wsL_law (wsV RL 80 RX3 yX3_bringHome wsX3_bringHome) := goodIn_app (goodIn_of _ (by decide +kernel)) ggL_law_X3_bringHome
set_option maxRecDepth 20000 in
theorem ggL_law_L_build : GoodIn wsL_law wsL_build := goodIn_ca (goodIn_r _ [229, 195, 230, 231, 232, 2, 233, 19, 234, 235, 236, 200, 201, 237, 238, 239, 18, 240, 39, 37, 29, 215, 216, 217, 218, 116, 30, 112, 113, 114, 115, 32, 93, 241, 34, 35, 36, 38, 40, 41, 42, 43, 472, 473, 474, 475, 476, 493, 494, 495, 496, 497, 498, 499, 500, 501, 502, 503] (by decide +kernel) (by decide +kernel)) (goodIn_sub (fun _ h => List.mem_append_left _ (List.mem_append_right _ h)) (by decide +kernel))
set_option maxRecDepth 20000 in
theorem gL_law_L_build : GoodIn wsL_law (va_wsS RL 81 yL_build wsL_build) := goodIn_app (goodIn_of _ (by decide +kernel)) ggL_law_L_build
set_option maxRecDepth 20000 in
theorem ggL_law_X3_build : GoodIn wsL_law wsX3_build := goodIn_r _ [245, 127, 59, 55, 56, 246, 247, 5, 248, 223, 224, 225, 226, 60, 163, 164, 165, 166, 61, 54, 53, 167, 249, 250, 251, 252, 57, 63, 64, 65, 66, 477, 478, 479, 480, 481, 482, 483, 484, 485, 486, 487, 488, 489, 490, 491, 492] (by decide +kernel) (by decide +kernel)
set_option maxRecDepth 20000 in
theorem gL_law_X3_build : GoodIn wsL_law (wsV RL 83 RX3 yX3_build wsX3_build) := goodIn_app (goodIn_of _ (by decide +kernel)) ggL_law_X3_build
set_option maxRecDepth 20000 in
theorem ggL_law_L_cast : GoodIn wsL_law wsL_cast := goodIn_ca (goodIn_ca (goodIn_r _ [255, 71, 256, 257, 258, 259, 2, 260, 261, 262, 19, 263, 264, 265, 266, 267, 79, 80, 268, 269, 109, 110, 18, 111, 29, 38, 39, 30, 112, 113, 114, 115, 32, 116, 93, 104, 105, 106, 107, 472, 473, 474, 475, 476, 493, 494, 495, 496, 497, 498, 499, 500, 501, 502, 503] (by decide +kernel) (by decide +kernel)) (goodIn_sub (fun _ h => List.mem_append_right _ h) (by decide +kernel))) (goodIn_sub (fun _ h => List.mem_append_left _ (List.mem_append_left _ (List.mem_append_right _ h))) (by decide +kernel))
set_option maxRecDepth 20000 in
theorem gL_law_L_cast : GoodIn wsL_law (va_wsS RL 84 yL_cast wsL_cast) := goodIn_app (goodIn_of _ (by decide +kernel)) ggL_law_L_cast
set_option maxRecDepth 20000 in
theorem ggL_law_X3_cast : GoodIn wsL_law wsX3_cast := goodIn_r _ [273, 57, 127, 274, 275, 276, 5, 277, 55, 155, 156, 157, 158, 56, 59, 58, 159, 160, 161, 162, 60, 163, 164, 165, 166, 61, 54, 53, 167, 151, 152, 153, 154, 477, 478, 479, 480, 481, 482, 483, 484, 485, 486, 487, 488, 489, 490, 491, 492] (by decide +kernel) (by decide +kernel)
set_option maxRecDepth 20000 in
theorem gL_law_X3_cast : GoodIn wsL_law (wsV RL 86 RX3 yX3_cast wsX3_cast) := goodIn_app (goodIn_of _ (by decide +kernel)) ggL_law_X3_cast
set_option maxRecDepth 20000 in
theorem ggL_law_X2_sets : GoodIn wsL_law wsX2_sets := goodIn_r _ [281, 19, 268, 472, 473, 474, 475, 476, 493, 494, 495, 496, 497, 498, 499, 500, 501, 502, 503] (by decide +kernel) (by decide +kernel)
set_option maxRecDepth 20000 in
theorem gL_law_X2_sets : GoodIn wsL_law (wsV RL 87 RX2 yX2_sets wsX2_sets) := goodIn_app (goodIn_of _ (by decide +kernel)) ggL_law_X2_sets
set_option maxRecDepth 20000 in
theorem ggL_law_X3_sets : GoodIn wsL_law wsX3_sets := goodIn_r _ [285, 127, 55, 477, 478, 479, 480, 481, 482, 483, 484, 485, 486, 487, 488, 489, 490, 491, 492] (by decide +kernel) (by decide +kernel)
set_option maxRecDepth 20000 in
theorem gL_law_X3_sets : GoodIn wsL_law (wsV RL 90 RX3 yX3_sets wsX3_sets) := goodIn_app (goodIn_of _ (by decide +kernel)) ggL_law_X3_sets
set_option maxRecDepth 20000 in
theorem ggL_law_X2_places : GoodIn wsL_law wsX2_places := goodIn_r _ [289, 19, 290, 472, 473, 474, 475, 476, 493, 494, 495, 496, 497, 498, 499, 500, 501, 502, 503] (by decide +kernel) (by decide +kernel)
set_option maxRecDepth 20000 in
theorem gL_law_X2_places : GoodIn wsL_law (wsV RL 91 RX2 yX2_places wsX2_places) := goodIn_app (goodIn_of _ (by decide +kernel)) ggL_law_X2_places
set_option maxRecDepth 20000 in
theorem ggL_law_X3_places : GoodIn wsL_law wsX3_places := goodIn_r _ [294, 127, 56, 477, 478, 479, 480, 481, 482, 483, 484, 485, 486, 487, 488, 489, 490, 491, 492] (by decide +kernel) (by decide +kernel)
set_option maxRecDepth 20000 in
theorem gL_law_X3_places : GoodIn wsL_law (wsV RL 94 RX3 yX3_places wsX3_places) := goodIn_app (goodIn_of _ (by decide +kernel)) ggL_law_X3_places
set_option maxRecDepth 20000 in
theorem ggL_law_L_lineIn : GoodIn wsL_law wsL_lineIn := goodIn_ca (goodIn_r _ [297, 71, 298, 299, 300, 2, 301, 19, 263, 264, 265, 266, 267, 79, 80, 268, 472, 473, 474, 475, 476, 493, 494, 495, 496, 497, 498, 499, 500, 501, 502, 503] (by decide +kernel) (by decide +kernel)) (goodIn_sub (fun _ h => List.mem_append_left _ (List.mem_append_left _ (List.mem_append_right _ h))) (by decide +kernel))
set_option maxRecDepth 20000 in
theorem gL_law_L_lineIn : GoodIn wsL_law (va_wsS RL 95 yL_lineIn wsL_lineIn) := goodIn_app (goodIn_of _ (by decide +kernel)) ggL_law_L_lineIn
set_option maxRecDepth 20000 in
theorem ggL_law_X3_lineIn : GoodIn wsL_law wsX3_lineIn := goodIn_r _ [305, 127, 57, 274, 275, 276, 5, 277, 55, 477, 478, 479, 480, 481, 482, 483, 484, 485, 486, 487, 488, 489, 490, 491, 492] (by decide +kernel) (by decide +kernel)
set_option maxRecDepth 20000 in
theorem gL_law_X3_lineIn : GoodIn wsL_law (wsV RL 97 RX3 yX3_lineIn wsX3_lineIn) := goodIn_app (goodIn_of _ (by decide +kernel)) ggL_law_X3_lineIn
set_option maxRecDepth 20000 in
theorem ggL_law_X2_sitting : GoodIn wsL_law wsX2_sitting := goodIn_r _ [309, 19, 310, 472, 473, 474, 475, 476, 493, 494, 495, 496, 497, 498, 499, 500, 501, 502, 503] (by decide +kernel) (by decide +kernel)
set_option maxRecDepth 20000 in
theorem gL_law_X2_sitting : GoodIn wsL_law (wsV RL 98 RX2 yX2_sitting wsX2_sitting) := goodIn_app (goodIn_of _ (by decide +kernel)) ggL_law_X2_sitting
set_option maxRecDepth 20000 in
theorem ggL_law_X3_sitting : GoodIn wsL_law wsX3_sitting := goodIn_r _ [314, 127, 59, 477, 478, 479, 480, 481, 482, 483, 484, 485, 486, 487, 488, 489, 490, 491, 492] (by decide +kernel) (by decide +kernel)
set_option maxRecDepth 20000 in
theorem gL_law_X3_sitting : GoodIn wsL_law (wsV RL 101 RX3 yX3_sitting wsX3_sitting) := goodIn_app (goodIn_of _ (by decide +kernel)) ggL_law_X3_sitting
set_option maxRecDepth 20000 in
theorem ggL_law_L_lineOnBench : GoodIn wsL_law wsL_lineOnBench := goodIn_ca (goodIn_r _ [317, 71, 318, 319, 320, 2, 321, 79, 80, 19, 310, 322, 472, 473, 474, 475, 476, 493, 494, 495, 496, 497, 498, 499, 500, 501, 502, 503] (by decide +kernel) (by decide +kernel)) (goodIn_sub (fun _ h => List.mem_append_left _ (List.mem_append_left _ (List.mem_append_right _ h))) (by decide +kernel))
set_option maxRecDepth 20000 in
theorem gL_law_L_lineOnBench : GoodIn wsL_law (va_wsS RL 102 yL_lineOnBench wsL_lineOnBench) := goodIn_app (goodIn_of _ (by decide +kernel)) ggL_law_L_lineOnBench
set_option maxRecDepth 20000 in
theorem ggL_law_X3_lineOnBench : GoodIn wsL_law wsX3_lineOnBench := goodIn_r _ [326, 59, 127, 58, 477, 478, 479, 480, 481, 482, 483, 484, 485, 486, 487, 488, 489, 490, 491, 492] (by decide +kernel) (by decide +kernel)
set_option maxRecDepth 20000 in
theorem gL_law_X3_lineOnBench : GoodIn wsL_law (wsV RL 104 RX3 yX3_lineOnBench wsX3_lineOnBench) := goodIn_app (goodIn_of _ (by decide +kernel)) ggL_law_X3_lineOnBench
set_option maxRecDepth 20000 in
theorem ggL_law_L_placeOf : GoodIn wsL_law wsL_placeOf := goodIn_ca (goodIn_r _ [329, 71, 330, 331, 332, 2, 333, 19, 334, 335, 336, 79, 80, 337, 338, 339, 18, 340, 29, 96, 97, 98, 99, 37, 100, 101, 102, 103, 39, 30, 472, 473, 474, 475, 476, 493, 494, 495, 496, 497, 498, 499, 500, 501, 502, 503] (by decide +kernel) (by decide +kernel)) (goodIn_sub (fun _ h => List.mem_append_left _ (List.mem_append_left _ (List.mem_append_right _ h))) (by decide +kernel))
set_option maxRecDepth 20000 in
theorem gL_law_L_placeOf : GoodIn wsL_law (va_wsS RL 105 yL_placeOf wsL_placeOf) := goodIn_app (goodIn_of _ (by decide +kernel)) ggL_law_L_placeOf
set_option maxRecDepth 20000 in
theorem ggL_law_X3_placeOf : GoodIn wsL_law wsX3_placeOf := goodIn_r _ [344, 57, 55, 345, 346, 347, 5, 348, 127, 143, 144, 145, 146, 59, 58, 477, 478, 479, 480, 481, 482, 483, 484, 485, 486, 487, 488, 489, 490, 491, 492] (by decide +kernel) (by decide +kernel)
set_option maxRecDepth 20000 in
theorem gL_law_X3_placeOf : GoodIn wsL_law (wsV RL 107 RX3 yX3_placeOf wsX3_placeOf) := goodIn_app (goodIn_of _ (by decide +kernel)) ggL_law_X3_placeOf
set_option maxRecDepth 20000 in
theorem ggL_law_L_isDirty : GoodIn wsL_law wsL_isDirty := goodIn_ca (goodIn_r _ [351, 71, 352, 353, 354, 2, 355, 19, 179, 334, 335, 336, 79, 80, 472, 473, 474, 475, 476, 493, 494, 495, 496, 497, 498, 499, 500, 501, 502, 503] (by decide +kernel) (by decide +kernel)) (goodIn_sub (fun _ h => List.mem_append_left _ (List.mem_append_left _ (List.mem_append_right _ h))) (by decide +kernel))
set_option maxRecDepth 20000 in
theorem gL_law_L_isDirty : GoodIn wsL_law (va_wsS RL 108 yL_isDirty wsL_isDirty) := goodIn_app (goodIn_of _ (by decide +kernel)) ggL_law_L_isDirty
set_option maxRecDepth 20000 in
theorem ggL_law_X3_isDirty : GoodIn wsL_law wsX3_isDirty := goodIn_r _ [359, 60, 345, 346, 347, 5, 348, 127, 477, 478, 479, 480, 481, 482, 483, 484, 485, 486, 487, 488, 489, 490, 491, 492] (by decide +kernel) (by decide +kernel)
set_option maxRecDepth 20000 in
theorem gL_law_X3_isDirty : GoodIn wsL_law (wsV RL 110 RX3 yX3_isDirty wsX3_isDirty) := goodIn_app (goodIn_of _ (by decide +kernel)) ggL_law_X3_isDirty
set_option maxRecDepth 20000 in
theorem ggL_law_X2_dirty : GoodIn wsL_law wsX2_dirty := goodIn_r _ [363, 19, 364, 365, 366, 18, 367, 32, 472, 473, 474, 475, 476, 493, 494, 495, 496, 497, 498, 499, 500, 501, 502, 503] (by decide +kernel) (by decide +kernel)
set_option maxRecDepth 20000 in
theorem gL_law_X2_dirty : GoodIn wsL_law (wsV RL 111 RX2 yX2_dirty wsX2_dirty) := goodIn_app (goodIn_of _ (by decide +kernel)) ggL_law_X2_dirty
set_option maxRecDepth 20000 in
theorem ggL_law_X3_dirty : GoodIn wsL_law wsX3_dirty := goodIn_r _ [371, 127, 60, 477, 478, 479, 480, 481, 482, 483, 484, 485, 486, 487, 488, 489, 490, 491, 492] (by decide +kernel) (by decide +kernel)
set_option maxRecDepth 20000 in
theorem gL_law_X3_dirty : GoodIn wsL_law (wsV RL 114 RX3 yX3_dirty wsX3_dirty) := goodIn_app (goodIn_of _ (by decide +kernel)) ggL_law_X3_dirty
set_option maxRecDepth 20000 in
theorem ggL_law_L_atHome : GoodIn wsL_law wsL_atHome := goodIn_ca (goodIn_r _ [374, 71, 375, 376, 377, 2, 378, 19, 179, 15, 14, 76, 77, 78, 79, 80, 81, 82, 83, 472, 473, 474, 475, 476, 493, 494, 495, 496, 497, 498, 499, 500, 501, 502, 503] (by decide +kernel) (by decide +kernel)) (goodIn_sub (fun _ h => List.mem_append_left _ (List.mem_append_left _ (List.mem_append_right _ h))) (by decide +kernel))
set_option maxRecDepth 20000 in
theorem gL_law_L_atHome : GoodIn wsL_law (va_wsS RL 115 yL_atHome wsL_atHome) := goodIn_app (goodIn_of _ (by decide +kernel)) ggL_law_L_atHome
set_option maxRecDepth 20000 in
theorem ggL_law_X3_atHome : GoodIn wsL_law wsX3_atHome := goodIn_r _ [382, 127, 54, 128, 129, 5, 130, 477, 478, 479, 480, 481, 482, 483, 484, 485, 486, 487, 488, 489, 490, 491, 492] (by decide +kernel) (by decide +kernel)
set_option maxRecDepth 20000 in
theorem gL_law_X3_atHome : GoodIn wsL_law (wsV RL 117 RX3 yX3_atHome wsX3_atHome) := goodIn_app (goodIn_of _ (by decide +kernel)) ggL_law_X3_atHome
set_option maxRecDepth 20000 in
theorem ggL_law_L_peek : GoodIn wsL_law wsL_peek := goodIn_ca (goodIn_r _ [385, 71, 386, 387, 388, 2, 389, 14, 76, 77, 78, 79, 80, 472, 473, 474, 475, 476] (by decide +kernel) (by decide +kernel)) (goodIn_sub (fun _ h => List.mem_append_left _ (List.mem_append_left _ (List.mem_append_right _ h))) (by decide +kernel))
set_option maxRecDepth 20000 in
theorem gL_law_L_peek : GoodIn wsL_law (va_wsS RL 118 yL_peek wsL_peek) := goodIn_app (goodIn_of _ (by decide +kernel)) ggL_law_L_peek
set_option maxRecDepth 20000 in
theorem ggL_law_X3_peek : GoodIn wsL_law wsX3_peek := goodIn_r _ [393, 127, 53, 128, 129, 5, 130, 477, 478, 479, 480, 481, 482, 483, 484, 485, 486, 487, 488, 489, 490, 491, 492] (by decide +kernel) (by decide +kernel)
set_option maxRecDepth 20000 in
theorem gL_law_X3_peek : GoodIn wsL_law (wsV RL 120 RX3 yX3_peek wsX3_peek) := goodIn_app (goodIn_of _ (by decide +kernel)) ggL_law_X3_peek
set_option maxRecDepth 20000 in
theorem ggL_law_X2_hits : GoodIn wsL_law wsX2_hits := goodIn_r _ [397, 19, 398, 472, 473, 474, 475, 476, 493, 494, 495, 496, 497, 498, 499, 500, 501, 502, 503] (by decide +kernel) (by decide +kernel)
set_option maxRecDepth 20000 in
theorem gL_law_X2_hits : GoodIn wsL_law (wsV RL 121 RX2 yX2_hits wsX2_hits) := goodIn_app (goodIn_of _ (by decide +kernel)) ggL_law_X2_hits
set_option maxRecDepth 20000 in
theorem ggL_law_X3_hits : GoodIn wsL_law wsX3_hits := goodIn_r _ [402, 127, 135, 477, 478, 479, 480, 481, 482, 483, 484, 485, 486, 487, 488, 489, 490, 491, 492] (by decide +kernel) (by decide +kernel)
set_option maxRecDepth 20000 in
theorem gL_law_X3_hits : GoodIn wsL_law (wsV RL 124 RX3 yX3_hits wsX3_hits) := goodIn_app (goodIn_of _ (by decide +kernel)) ggL_law_X3_hits
set_option maxRecDepth 20000 in
theorem ggL_law_X2_swaps : GoodIn wsL_law wsX2_swaps := goodIn_r _ [406, 19, 407, 472, 473, 474, 475, 476, 493, 494, 495, 496, 497, 498, 499, 500, 501, 502, 503] (by decide +kernel) (by decide +kernel)
set_option maxRecDepth 20000 in
theorem gL_law_X2_swaps : GoodIn wsL_law (wsV RL 125 RX2 yX2_swaps wsX2_swaps) := goodIn_app (goodIn_of _ (by decide +kernel)) ggL_law_X2_swaps
set_option maxRecDepth 20000 in
theorem ggL_law_X3_swaps : GoodIn wsL_law wsX3_swaps := goodIn_r _ [411, 127, 136, 477, 478, 479, 480, 481, 482, 483, 484, 485, 486, 487, 488, 489, 490, 491, 492] (by decide +kernel) (by decide +kernel)
set_option maxRecDepth 20000 in
theorem gL_law_X3_swaps : GoodIn wsL_law (wsV RL 128 RX3 yX3_swaps wsX3_swaps) := goodIn_app (goodIn_of _ (by decide +kernel)) ggL_law_X3_swaps
set_option maxRecDepth 20000 in
theorem ggL_law_X2_misses : GoodIn wsL_law wsX2_misses := goodIn_r _ [415, 19, 416, 472, 473, 474, 475, 476, 493, 494, 495, 496, 497, 498, 499, 500, 501, 502, 503] (by decide +kernel) (by decide +kernel)
set_option maxRecDepth 20000 in
theorem gL_law_X2_misses : GoodIn wsL_law (wsV RL 129 RX2 yX2_misses wsX2_misses) := goodIn_app (goodIn_of _ (by decide +kernel)) ggL_law_X2_misses
set_option maxRecDepth 20000 in
theorem ggL_law_X3_misses : GoodIn wsL_law wsX3_misses := goodIn_r _ [420, 127, 137, 477, 478, 479, 480, 481, 482, 483, 484, 485, 486, 487, 488, 489, 490, 491, 492] (by decide +kernel) (by decide +kernel)
set_option maxRecDepth 20000 in
theorem gL_law_X3_misses : GoodIn wsL_law (wsV RL 132 RX3 yX3_misses wsX3_misses) := goodIn_app (goodIn_of _ (by decide +kernel)) ggL_law_X3_misses
set_option maxRecDepth 20000 in
theorem ggL_law_X2_homecomings : GoodIn wsL_law wsX2_homecomings := goodIn_r _ [424, 19, 425, 472, 473, 474, 475, 476, 493, 494, 495, 496, 497, 498, 499, 500, 501, 502, 503] (by decide +kernel) (by decide +kernel)
set_option maxRecDepth 20000 in
theorem gL_law_X2_homecomings : GoodIn wsL_law (wsV RL 133 RX2 yX2_homecomings wsX2_homecomings) := goodIn_app (goodIn_of _ (by decide +kernel)) ggL_law_X2_homecomings
set_option maxRecDepth 20000 in
theorem ggL_law_X3_homecomings : GoodIn wsL_law wsX3_homecomings := goodIn_r _ [429, 127, 167, 477, 478, 479, 480, 481, 482, 483, 484, 485, 486, 487, 488, 489, 490, 491, 492] (by decide +kernel) (by decide +kernel)
set_option maxRecDepth 20000 in
theorem gL_law_X3_homecomings : GoodIn wsL_law (wsV RL 136 RX3 yX3_homecomings wsX3_homecomings) := goodIn_app (goodIn_of _ (by decide +kernel)) ggL_law_X3_homecomings
set_option maxRecDepth 20000 in
theorem ggL_law_X2_cost : GoodIn wsL_law wsX2_cost := goodIn_r _ [433, 19, 202, 472, 473, 474, 475, 476, 493, 494, 495, 496, 497, 498, 499, 500, 501, 502, 503] (by decide +kernel) (by decide +kernel)
set_option maxRecDepth 20000 in
theorem gL_law_X2_cost : GoodIn wsL_law (wsV RL 137 RX2 yX2_cost wsX2_cost) := goodIn_app (goodIn_of _ (by decide +kernel)) ggL_law_X2_cost
set_option maxRecDepth 20000 in
theorem ggL_law_X3_cost : GoodIn wsL_law wsX3_cost := goodIn_r _ [437, 127, 61, 477, 478, 479, 480, 481, 482, 483, 484, 485, 486, 487, 488, 489, 490, 491, 492] (by decide +kernel) (by decide +kernel)
set_option maxRecDepth 20000 in
theorem gL_law_X3_cost : GoodIn wsL_law (wsV RL 140 RX3 yX3_cost wsX3_cost) := goodIn_app (goodIn_of _ (by decide +kernel)) ggL_law_X3_cost
set_option maxRecDepth 20000 in
theorem ggL_law_L_wouldCost : GoodIn wsL_law wsL_wouldCost := goodIn_ca (goodIn_r _ [440, 195, 441, 442, 443, 2, 444, 234, 235, 236, 200, 201, 445, 446, 447, 448, 20, 202, 24, 449, 450, 451, 241, 34, 35, 18, 36, 37, 38, 29, 39, 32, 40, 41, 42, 43, 452, 453, 454, 23, 455, 122, 121, 88, 89, 90, 91, 92, 93, 94, 95, 96, 97, 98, 99, 100, 101, 102, 103, 30, 104, 105, 106, 107, 108, 109, 110, 111, 112, 113, 114, 115, 116, 472, 473, 474, 475, 476, 493, 494, 495, 496, 497, 498, 499, 500, 501, 502, 503, 504, 505, 506, 507] (by decide +kernel) (by decide +kernel)) (goodIn_sub (fun _ h => List.mem_append_left _ (List.mem_append_right _ h)) (by decide +kernel))
set_option maxRecDepth 20000 in
theorem gL_law_L_wouldCost : GoodIn wsL_law (va_wsS RL 141 yL_wouldCost wsL_wouldCost) := goodIn_app (goodIn_of _ (by decide +kernel)) ggL_law_L_wouldCost
set_option maxRecDepth 20000 in
theorem ggL_law_X3_wouldCost : GoodIn wsL_law wsX3_wouldCost := goodIn_r _ [459, 127, 246, 247, 5, 248, 460, 461, 462, 463, 55, 56, 61, 138, 62, 60, 63, 64, 65, 66, 57, 59, 139, 140, 141, 142, 143, 144, 145, 146, 58, 147, 148, 149, 150, 151, 152, 153, 154, 155, 156, 157, 158, 159, 160, 161, 162, 163, 164, 165, 166, 54, 53, 167, 477, 478, 479, 480, 481, 482, 483, 484, 485, 486, 487, 488, 489, 490, 491, 492] (by decide +kernel) (by decide +kernel)
set_option maxRecDepth 20000 in
theorem gL_law_X3_wouldCost : GoodIn wsL_law (wsV RL 143 RX3 yX3_wouldCost wsX3_wouldCost) := goodIn_app (goodIn_of _ (by decide +kernel)) ggL_law_X3_wouldCost
set_option maxRecDepth 20000 in
theorem ggL_law_X2_bestPlaces : GoodIn wsL_law wsX2_bestPlaces := goodIn_r _ [467, 19, 268, 445, 446, 447, 2, 448, 20, 202, 24, 449, 450, 451, 241, 34, 35, 18, 36, 37, 38, 29, 39, 32, 40, 41, 42, 43, 452, 453, 454, 23, 455, 122, 121, 88, 89, 90, 91, 92, 93, 94, 95, 96, 97, 98, 99, 100, 101, 102, 103, 30, 104, 105, 106, 107, 108, 109, 110, 111, 112, 113, 114, 115, 116, 472, 473, 474, 475, 476, 493, 494, 495, 496, 497, 498, 499, 500, 501, 502, 503, 504, 505, 506, 507] (by decide +kernel) (by decide +kernel)
set_option maxRecDepth 20000 in
theorem gL_law_X2_bestPlaces : GoodIn wsL_law (wsV RL 144 RX2 yX2_bestPlaces wsX2_bestPlaces) := goodIn_app (goodIn_of _ (by decide +kernel)) ggL_law_X2_bestPlaces
set_option maxRecDepth 20000 in
theorem ggL_law_X3_bestPlaces : GoodIn wsL_law wsX3_bestPlaces := goodIn_r _ [471, 127, 55, 460, 461, 462, 5, 463, 56, 61, 138, 62, 60, 63, 64, 65, 66, 57, 59, 139, 140, 141, 142, 143, 144, 145, 146, 58, 147, 148, 149, 150, 151, 152, 153, 154, 155, 156, 157, 158, 159, 160, 161, 162, 163, 164, 165, 166, 54, 53, 167, 477, 478, 479, 480, 481, 482, 483, 484, 485, 486, 487, 488, 489, 490, 491, 492] (by decide +kernel) (by decide +kernel)
set_option maxRecDepth 20000 in
theorem gL_law_X3_bestPlaces : GoodIn wsL_law (wsV RL 147 RX3 yX3_bestPlaces wsX3_bestPlaces) := goodIn_app (goodIn_of _ (by decide +kernel)) ggL_law_X3_bestPlaces
theorem dL_law_0 : decode cL_law 0 = .ok (.new 8, 3) := by decide +kernel
theorem dL_law_3 : decode cL_law 3 = .ok (.dup, 1) := by decide +kernel
theorem dL_law_4 : decode cL_law 4 = .ok (.invokespecial 55, 3) := by decide +kernel
theorem dL_law_7 : decode cL_law 7 = .ok (.astore_n 1, 1) := by decide +kernel
theorem dL_law_8 : decode cL_law 8 = .ok (.new 56, 3) := by decide +kernel
theorem dL_law_11 : decode cL_law 11 = .ok (.dup, 1) := by decide +kernel
theorem dL_law_12 : decode cL_law 12 = .ok (.invokespecial 58, 3) := by decide +kernel
theorem dL_law_15 : decode cL_law 15 = .ok (.astore_n 2, 1) := by decide +kernel
theorem dL_law_16 : decode cL_law 16 = .ok (.iconst 1, 1) := by decide +kernel
theorem dL_law_17 : decode cL_law 17 = .ok (.newarray .long, 2) := by decide +kernel
theorem dL_law_19 : decode cL_law 19 = .ok (.astore_n 3, 1) := by decide +kernel
theorem dL_law_20 : decode cL_law 20 = .ok (.iconst 0, 1) := by decide +kernel
theorem dL_law_21 : decode cL_law 21 = .ok (.istore 4, 2) := by decide +kernel
theorem dL_law_23 : decode cL_law 23 = .ok (.iload 4, 2) := by decide +kernel
theorem dL_law_25 : decode cL_law 25 = .ok (.aload_n 0, 1) := by decide +kernel
theorem dL_law_26 : decode cL_law 26 = .ok (.arraylength, 1) := by decide +kernel
theorem dL_law_27 : decode cL_law 27 = .ok (.iconst 4, 1) := by decide +kernel
theorem dL_law_28 : decode cL_law 28 = .ok (.isub, 1) := by decide +kernel
theorem dL_law_29 : decode cL_law 29 = .ok (.if_icmp .gt 1003, 3) := by decide +kernel
theorem dL_law_32 : decode cL_law 32 = .ok (.aload_n 0, 1) := by decide +kernel
theorem dL_law_33 : decode cL_law 33 = .ok (.iload 4, 2) := by decide +kernel
theorem dL_law_35 : decode cL_law 35 = .ok (.iaload, 1) := by decide +kernel
theorem dL_law_36 : decode cL_law 36 = .ok (.bipush 31, 2) := by decide +kernel
theorem dL_law_38 : decode cL_law 38 = .ok (.iand, 1) := by decide +kernel
theorem dL_law_39 : decode cL_law 39 = .ok (.tableswitch 987 0 22 #[105, 161, 229, 309, 322, 390, 446, 459, 472, 528, 541, 597, 653, 716, 729, 785, 841, 854, 867, 880, 893, 906, 974], 105) := by decide +kernel
theorem dL_law_144 : decode cL_law 144 = .ok (.aload_n 1, 1) := by decide +kernel
theorem dL_law_145 : decode cL_law 145 = .ok (.aload_n 0, 1) := by decide +kernel
theorem dL_law_146 : decode cL_law 146 = .ok (.iload 4, 2) := by decide +kernel
theorem dL_law_148 : decode cL_law 148 = .ok (.iconst 1, 1) := by decide +kernel
theorem dL_law_149 : decode cL_law 149 = .ok (.iadd, 1) := by decide +kernel
theorem dL_law_150 : decode cL_law 150 = .ok (.iaload, 1) := by decide +kernel
theorem dL_law_151 : decode cL_law 151 = .ok (.aload_n 3, 1) := by decide +kernel
theorem dL_law_152 : decode cL_law 152 = .ok (.invokestatic 59, 3) := by decide +kernel
theorem dL_law_155 : decode cL_law 155 = .ok (.istore 5, 2) := by decide +kernel
theorem dL_law_157 : decode cL_law 157 = .ok (.aload_n 2, 1) := by decide +kernel
theorem dL_law_158 : decode cL_law 158 = .ok (.aload_n 0, 1) := by decide +kernel
theorem dL_law_159 : decode cL_law 159 = .ok (.iload 4, 2) := by decide +kernel
theorem dL_law_161 : decode cL_law 161 = .ok (.iconst 1, 1) := by decide +kernel
theorem dL_law_162 : decode cL_law 162 = .ok (.iadd, 1) := by decide +kernel
theorem dL_law_163 : decode cL_law 163 = .ok (.iaload, 1) := by decide +kernel
theorem dL_law_164 : decode cL_law 164 = .ok (.invokevirtual 64, 3) := by decide +kernel
theorem dL_law_167 : decode cL_law 167 = .ok (.istore 6, 2) := by decide +kernel
theorem dL_law_169 : decode cL_law 169 = .ok (.aload_n 2, 1) := by decide +kernel
theorem dL_law_170 : decode cL_law 170 = .ok (.invokevirtual 65, 3) := by decide +kernel
theorem dL_law_173 : decode cL_law 173 = .ok (.iload 5, 2) := by decide +kernel
theorem dL_law_175 : decode cL_law 175 = .ok (.if_icmp .eq 5, 3) := by decide +kernel
theorem dL_law_178 : decode cL_law 178 = .ok (.iconst 0, 1) := by decide +kernel
theorem dL_law_179 : decode cL_law 179 = .ok (.ireturn, 1) := by decide +kernel
theorem dL_law_180 : decode cL_law 180 = .ok (.iload 5, 2) := by decide +kernel
theorem dL_law_182 : decode cL_law 182 = .ok (.ifCond .ne 15, 3) := by decide +kernel
theorem dL_law_185 : decode cL_law 185 = .ok (.aload_n 3, 1) := by decide +kernel
theorem dL_law_186 : decode cL_law 186 = .ok (.iconst 0, 1) := by decide +kernel
theorem dL_law_187 : decode cL_law 187 = .ok (.laload, 1) := by decide +kernel
theorem dL_law_188 : decode cL_law 188 = .ok (.iload 6, 2) := by decide +kernel
theorem dL_law_190 : decode cL_law 190 = .ok (.i2l, 1) := by decide +kernel
theorem dL_law_191 : decode cL_law 191 = .ok (.lcmp, 1) := by decide +kernel
theorem dL_law_192 : decode cL_law 192 = .ok (.ifCond .eq 5, 3) := by decide +kernel
theorem dL_law_195 : decode cL_law 195 = .ok (.iconst 0, 1) := by decide +kernel
theorem dL_law_196 : decode cL_law 196 = .ok (.ireturn, 1) := by decide +kernel
theorem dL_law_197 : decode cL_law 197 = .ok (.goto 829, 3) := by decide +kernel
theorem dL_law_200 : decode cL_law 200 = .ok (.aload_n 1, 1) := by decide +kernel
theorem dL_law_201 : decode cL_law 201 = .ok (.aload_n 0, 1) := by decide +kernel
theorem dL_law_202 : decode cL_law 202 = .ok (.iload 4, 2) := by decide +kernel
theorem dL_law_204 : decode cL_law 204 = .ok (.iconst 1, 1) := by decide +kernel
theorem dL_law_205 : decode cL_law 205 = .ok (.iadd, 1) := by decide +kernel
theorem dL_law_206 : decode cL_law 206 = .ok (.iaload, 1) := by decide +kernel
theorem dL_law_207 : decode cL_law 207 = .ok (.aload_n 0, 1) := by decide +kernel
theorem dL_law_208 : decode cL_law 208 = .ok (.iload 4, 2) := by decide +kernel
theorem dL_law_210 : decode cL_law 210 = .ok (.iconst 2, 1) := by decide +kernel
theorem dL_law_211 : decode cL_law 211 = .ok (.iadd, 1) := by decide +kernel
theorem dL_law_212 : decode cL_law 212 = .ok (.iaload, 1) := by decide +kernel
theorem dL_law_213 : decode cL_law 213 = .ok (.aload_n 3, 1) := by decide +kernel
theorem dL_law_214 : decode cL_law 214 = .ok (.invokestatic 69, 3) := by decide +kernel
theorem dL_law_217 : decode cL_law 217 = .ok (.istore 5, 2) := by decide +kernel
theorem dL_law_219 : decode cL_law 219 = .ok (.aload_n 2, 1) := by decide +kernel
theorem dL_law_220 : decode cL_law 220 = .ok (.aload_n 0, 1) := by decide +kernel
theorem dL_law_221 : decode cL_law 221 = .ok (.iload 4, 2) := by decide +kernel
theorem dL_law_223 : decode cL_law 223 = .ok (.iconst 1, 1) := by decide +kernel
theorem dL_law_224 : decode cL_law 224 = .ok (.iadd, 1) := by decide +kernel
theorem dL_law_225 : decode cL_law 225 = .ok (.iaload, 1) := by decide +kernel
theorem dL_law_226 : decode cL_law 226 = .ok (.aload_n 0, 1) := by decide +kernel
theorem dL_law_227 : decode cL_law 227 = .ok (.iload 4, 2) := by decide +kernel
theorem dL_law_229 : decode cL_law 229 = .ok (.iconst 2, 1) := by decide +kernel
theorem dL_law_230 : decode cL_law 230 = .ok (.iadd, 1) := by decide +kernel
theorem dL_law_231 : decode cL_law 231 = .ok (.iaload, 1) := by decide +kernel
theorem dL_law_232 : decode cL_law 232 = .ok (.invokevirtual 72, 3) := by decide +kernel
theorem dL_law_235 : decode cL_law 235 = .ok (.istore 6, 2) := by decide +kernel
theorem dL_law_237 : decode cL_law 237 = .ok (.aload_n 2, 1) := by decide +kernel
theorem dL_law_238 : decode cL_law 238 = .ok (.invokevirtual 65, 3) := by decide +kernel
theorem dL_law_241 : decode cL_law 241 = .ok (.iload 5, 2) := by decide +kernel
theorem dL_law_243 : decode cL_law 243 = .ok (.if_icmp .eq 5, 3) := by decide +kernel
theorem dL_law_246 : decode cL_law 246 = .ok (.iconst 0, 1) := by decide +kernel
theorem dL_law_247 : decode cL_law 247 = .ok (.ireturn, 1) := by decide +kernel
theorem dL_law_248 : decode cL_law 248 = .ok (.iload 5, 2) := by decide +kernel
theorem dL_law_250 : decode cL_law 250 = .ok (.ifCond .ne 15, 3) := by decide +kernel
theorem dL_law_253 : decode cL_law 253 = .ok (.aload_n 3, 1) := by decide +kernel
theorem dL_law_254 : decode cL_law 254 = .ok (.iconst 0, 1) := by decide +kernel
theorem dL_law_255 : decode cL_law 255 = .ok (.laload, 1) := by decide +kernel
theorem dL_law_256 : decode cL_law 256 = .ok (.iload 6, 2) := by decide +kernel
theorem dL_law_258 : decode cL_law 258 = .ok (.i2l, 1) := by decide +kernel
theorem dL_law_259 : decode cL_law 259 = .ok (.lcmp, 1) := by decide +kernel
theorem dL_law_260 : decode cL_law 260 = .ok (.ifCond .eq 5, 3) := by decide +kernel
theorem dL_law_263 : decode cL_law 263 = .ok (.iconst 0, 1) := by decide +kernel
theorem dL_law_264 : decode cL_law 264 = .ok (.ireturn, 1) := by decide +kernel
theorem dL_law_265 : decode cL_law 265 = .ok (.goto 761, 3) := by decide +kernel
theorem dL_law_268 : decode cL_law 268 = .ok (.aload_n 1, 1) := by decide +kernel
theorem dL_law_269 : decode cL_law 269 = .ok (.aload_n 0, 1) := by decide +kernel
theorem dL_law_270 : decode cL_law 270 = .ok (.iload 4, 2) := by decide +kernel
theorem dL_law_272 : decode cL_law 272 = .ok (.iconst 1, 1) := by decide +kernel
theorem dL_law_273 : decode cL_law 273 = .ok (.iadd, 1) := by decide +kernel
theorem dL_law_274 : decode cL_law 274 = .ok (.iaload, 1) := by decide +kernel
theorem dL_law_275 : decode cL_law 275 = .ok (.aload_n 0, 1) := by decide +kernel
theorem dL_law_276 : decode cL_law 276 = .ok (.iload 4, 2) := by decide +kernel
theorem dL_law_278 : decode cL_law 278 = .ok (.iconst 2, 1) := by decide +kernel
theorem dL_law_279 : decode cL_law 279 = .ok (.iadd, 1) := by decide +kernel
theorem dL_law_280 : decode cL_law 280 = .ok (.iaload, 1) := by decide +kernel
theorem dL_law_281 : decode cL_law 281 = .ok (.aload_n 0, 1) := by decide +kernel
theorem dL_law_282 : decode cL_law 282 = .ok (.iload 4, 2) := by decide +kernel
theorem dL_law_284 : decode cL_law 284 = .ok (.iconst 3, 1) := by decide +kernel
theorem dL_law_285 : decode cL_law 285 = .ok (.iadd, 1) := by decide +kernel
theorem dL_law_286 : decode cL_law 286 = .ok (.iaload, 1) := by decide +kernel
theorem dL_law_287 : decode cL_law 287 = .ok (.aload_n 3, 1) := by decide +kernel
theorem dL_law_288 : decode cL_law 288 = .ok (.invokestatic 73, 3) := by decide +kernel
theorem dL_law_291 : decode cL_law 291 = .ok (.istore 5, 2) := by decide +kernel
theorem dL_law_293 : decode cL_law 293 = .ok (.aload_n 2, 1) := by decide +kernel
theorem dL_law_294 : decode cL_law 294 = .ok (.aload_n 0, 1) := by decide +kernel
theorem dL_law_295 : decode cL_law 295 = .ok (.iload 4, 2) := by decide +kernel
theorem dL_law_297 : decode cL_law 297 = .ok (.iconst 1, 1) := by decide +kernel
theorem dL_law_298 : decode cL_law 298 = .ok (.iadd, 1) := by decide +kernel
theorem dL_law_299 : decode cL_law 299 = .ok (.iaload, 1) := by decide +kernel
theorem dL_law_300 : decode cL_law 300 = .ok (.aload_n 0, 1) := by decide +kernel
theorem dL_law_301 : decode cL_law 301 = .ok (.iload 4, 2) := by decide +kernel
theorem dL_law_303 : decode cL_law 303 = .ok (.iconst 2, 1) := by decide +kernel
theorem dL_law_304 : decode cL_law 304 = .ok (.iadd, 1) := by decide +kernel
theorem dL_law_305 : decode cL_law 305 = .ok (.iaload, 1) := by decide +kernel
theorem dL_law_306 : decode cL_law 306 = .ok (.aload_n 0, 1) := by decide +kernel
theorem dL_law_307 : decode cL_law 307 = .ok (.iload 4, 2) := by decide +kernel
theorem dL_law_309 : decode cL_law 309 = .ok (.iconst 3, 1) := by decide +kernel
theorem dL_law_310 : decode cL_law 310 = .ok (.iadd, 1) := by decide +kernel
theorem dL_law_311 : decode cL_law 311 = .ok (.iaload, 1) := by decide +kernel
theorem dL_law_312 : decode cL_law 312 = .ok (.invokevirtual 76, 3) := by decide +kernel
theorem dL_law_315 : decode cL_law 315 = .ok (.istore 6, 2) := by decide +kernel
theorem dL_law_317 : decode cL_law 317 = .ok (.aload_n 2, 1) := by decide +kernel
theorem dL_law_318 : decode cL_law 318 = .ok (.invokevirtual 65, 3) := by decide +kernel
theorem dL_law_321 : decode cL_law 321 = .ok (.iload 5, 2) := by decide +kernel
theorem dL_law_323 : decode cL_law 323 = .ok (.if_icmp .eq 5, 3) := by decide +kernel
theorem dL_law_326 : decode cL_law 326 = .ok (.iconst 0, 1) := by decide +kernel
theorem dL_law_327 : decode cL_law 327 = .ok (.ireturn, 1) := by decide +kernel
theorem dL_law_328 : decode cL_law 328 = .ok (.iload 5, 2) := by decide +kernel
theorem dL_law_330 : decode cL_law 330 = .ok (.ifCond .ne 15, 3) := by decide +kernel
theorem dL_law_333 : decode cL_law 333 = .ok (.aload_n 3, 1) := by decide +kernel
theorem dL_law_334 : decode cL_law 334 = .ok (.iconst 0, 1) := by decide +kernel
theorem dL_law_335 : decode cL_law 335 = .ok (.laload, 1) := by decide +kernel
theorem dL_law_336 : decode cL_law 336 = .ok (.iload 6, 2) := by decide +kernel
theorem dL_law_338 : decode cL_law 338 = .ok (.i2l, 1) := by decide +kernel
theorem dL_law_339 : decode cL_law 339 = .ok (.lcmp, 1) := by decide +kernel
theorem dL_law_340 : decode cL_law 340 = .ok (.ifCond .eq 5, 3) := by decide +kernel
theorem dL_law_343 : decode cL_law 343 = .ok (.iconst 0, 1) := by decide +kernel
theorem dL_law_344 : decode cL_law 344 = .ok (.ireturn, 1) := by decide +kernel
theorem dL_law_345 : decode cL_law 345 = .ok (.goto 681, 3) := by decide +kernel
theorem dL_law_348 : decode cL_law 348 = .ok (.aload_n 1, 1) := by decide +kernel
theorem dL_law_349 : decode cL_law 349 = .ok (.invokevirtual 77, 3) := by decide +kernel
theorem dL_law_352 : decode cL_law 352 = .ok (.aload_n 2, 1) := by decide +kernel
theorem dL_law_353 : decode cL_law 353 = .ok (.invokevirtual 80, 3) := by decide +kernel
theorem dL_law_356 : decode cL_law 356 = .ok (.if_icmp .eq 670, 3) := by decide +kernel
theorem dL_law_359 : decode cL_law 359 = .ok (.iconst 0, 1) := by decide +kernel
theorem dL_law_360 : decode cL_law 360 = .ok (.ireturn, 1) := by decide +kernel
theorem dL_law_361 : decode cL_law 361 = .ok (.aload_n 1, 1) := by decide +kernel
theorem dL_law_362 : decode cL_law 362 = .ok (.aload_n 0, 1) := by decide +kernel
theorem dL_law_363 : decode cL_law 363 = .ok (.iload 4, 2) := by decide +kernel
theorem dL_law_365 : decode cL_law 365 = .ok (.iconst 1, 1) := by decide +kernel
theorem dL_law_366 : decode cL_law 366 = .ok (.iadd, 1) := by decide +kernel
theorem dL_law_367 : decode cL_law 367 = .ok (.iaload, 1) := by decide +kernel
theorem dL_law_368 : decode cL_law 368 = .ok (.aload_n 0, 1) := by decide +kernel
theorem dL_law_369 : decode cL_law 369 = .ok (.iload 4, 2) := by decide +kernel
theorem dL_law_371 : decode cL_law 371 = .ok (.iconst 2, 1) := by decide +kernel
theorem dL_law_372 : decode cL_law 372 = .ok (.iadd, 1) := by decide +kernel
theorem dL_law_373 : decode cL_law 373 = .ok (.iaload, 1) := by decide +kernel
theorem dL_law_374 : decode cL_law 374 = .ok (.aload_n 3, 1) := by decide +kernel
theorem dL_law_375 : decode cL_law 375 = .ok (.invokestatic 81, 3) := by decide +kernel
theorem dL_law_378 : decode cL_law 378 = .ok (.istore 5, 2) := by decide +kernel
theorem dL_law_380 : decode cL_law 380 = .ok (.aload_n 2, 1) := by decide +kernel
theorem dL_law_381 : decode cL_law 381 = .ok (.aload_n 0, 1) := by decide +kernel
theorem dL_law_382 : decode cL_law 382 = .ok (.iload 4, 2) := by decide +kernel
theorem dL_law_384 : decode cL_law 384 = .ok (.iconst 1, 1) := by decide +kernel
theorem dL_law_385 : decode cL_law 385 = .ok (.iadd, 1) := by decide +kernel
theorem dL_law_386 : decode cL_law 386 = .ok (.iaload, 1) := by decide +kernel
theorem dL_law_387 : decode cL_law 387 = .ok (.aload_n 0, 1) := by decide +kernel
theorem dL_law_388 : decode cL_law 388 = .ok (.iload 4, 2) := by decide +kernel
theorem dL_law_390 : decode cL_law 390 = .ok (.iconst 2, 1) := by decide +kernel
theorem dL_law_391 : decode cL_law 391 = .ok (.iadd, 1) := by decide +kernel
theorem dL_law_392 : decode cL_law 392 = .ok (.iaload, 1) := by decide +kernel
theorem dL_law_393 : decode cL_law 393 = .ok (.invokevirtual 83, 3) := by decide +kernel
theorem dL_law_396 : decode cL_law 396 = .ok (.istore 6, 2) := by decide +kernel
theorem dL_law_398 : decode cL_law 398 = .ok (.aload_n 2, 1) := by decide +kernel
theorem dL_law_399 : decode cL_law 399 = .ok (.invokevirtual 65, 3) := by decide +kernel
theorem dL_law_402 : decode cL_law 402 = .ok (.iload 5, 2) := by decide +kernel
theorem dL_law_404 : decode cL_law 404 = .ok (.if_icmp .eq 5, 3) := by decide +kernel
theorem dL_law_407 : decode cL_law 407 = .ok (.iconst 0, 1) := by decide +kernel
theorem dL_law_408 : decode cL_law 408 = .ok (.ireturn, 1) := by decide +kernel
theorem dL_law_409 : decode cL_law 409 = .ok (.iload 5, 2) := by decide +kernel
theorem dL_law_411 : decode cL_law 411 = .ok (.ifCond .ne 15, 3) := by decide +kernel
theorem dL_law_414 : decode cL_law 414 = .ok (.aload_n 3, 1) := by decide +kernel
theorem dL_law_415 : decode cL_law 415 = .ok (.iconst 0, 1) := by decide +kernel
theorem dL_law_416 : decode cL_law 416 = .ok (.laload, 1) := by decide +kernel
theorem dL_law_417 : decode cL_law 417 = .ok (.iload 6, 2) := by decide +kernel
theorem dL_law_419 : decode cL_law 419 = .ok (.i2l, 1) := by decide +kernel
theorem dL_law_420 : decode cL_law 420 = .ok (.lcmp, 1) := by decide +kernel
theorem dL_law_421 : decode cL_law 421 = .ok (.ifCond .eq 5, 3) := by decide +kernel
theorem dL_law_424 : decode cL_law 424 = .ok (.iconst 0, 1) := by decide +kernel
theorem dL_law_425 : decode cL_law 425 = .ok (.ireturn, 1) := by decide +kernel
theorem dL_law_426 : decode cL_law 426 = .ok (.goto 600, 3) := by decide +kernel
theorem dL_law_429 : decode cL_law 429 = .ok (.aload_n 1, 1) := by decide +kernel
theorem dL_law_430 : decode cL_law 430 = .ok (.aload_n 0, 1) := by decide +kernel
theorem dL_law_431 : decode cL_law 431 = .ok (.iload 4, 2) := by decide +kernel
theorem dL_law_433 : decode cL_law 433 = .ok (.iconst 1, 1) := by decide +kernel
theorem dL_law_434 : decode cL_law 434 = .ok (.iadd, 1) := by decide +kernel
theorem dL_law_435 : decode cL_law 435 = .ok (.iaload, 1) := by decide +kernel
theorem dL_law_436 : decode cL_law 436 = .ok (.aload_n 3, 1) := by decide +kernel
theorem dL_law_437 : decode cL_law 437 = .ok (.invokestatic 84, 3) := by decide +kernel
theorem dL_law_440 : decode cL_law 440 = .ok (.istore 5, 2) := by decide +kernel
theorem dL_law_442 : decode cL_law 442 = .ok (.aload_n 2, 1) := by decide +kernel
theorem dL_law_443 : decode cL_law 443 = .ok (.aload_n 0, 1) := by decide +kernel
theorem dL_law_444 : decode cL_law 444 = .ok (.iload 4, 2) := by decide +kernel
theorem dL_law_446 : decode cL_law 446 = .ok (.iconst 1, 1) := by decide +kernel
theorem dL_law_447 : decode cL_law 447 = .ok (.iadd, 1) := by decide +kernel
theorem dL_law_448 : decode cL_law 448 = .ok (.iaload, 1) := by decide +kernel
theorem dL_law_449 : decode cL_law 449 = .ok (.invokevirtual 86, 3) := by decide +kernel
theorem dL_law_452 : decode cL_law 452 = .ok (.istore 6, 2) := by decide +kernel
theorem dL_law_454 : decode cL_law 454 = .ok (.aload_n 2, 1) := by decide +kernel
theorem dL_law_455 : decode cL_law 455 = .ok (.invokevirtual 65, 3) := by decide +kernel
theorem dL_law_458 : decode cL_law 458 = .ok (.iload 5, 2) := by decide +kernel
theorem dL_law_460 : decode cL_law 460 = .ok (.if_icmp .eq 5, 3) := by decide +kernel
theorem dL_law_463 : decode cL_law 463 = .ok (.iconst 0, 1) := by decide +kernel
theorem dL_law_464 : decode cL_law 464 = .ok (.ireturn, 1) := by decide +kernel
theorem dL_law_465 : decode cL_law 465 = .ok (.iload 5, 2) := by decide +kernel
theorem dL_law_467 : decode cL_law 467 = .ok (.ifCond .ne 15, 3) := by decide +kernel
theorem dL_law_470 : decode cL_law 470 = .ok (.aload_n 3, 1) := by decide +kernel
theorem dL_law_471 : decode cL_law 471 = .ok (.iconst 0, 1) := by decide +kernel
theorem dL_law_472 : decode cL_law 472 = .ok (.laload, 1) := by decide +kernel
theorem dL_law_473 : decode cL_law 473 = .ok (.iload 6, 2) := by decide +kernel
theorem dL_law_475 : decode cL_law 475 = .ok (.i2l, 1) := by decide +kernel
theorem dL_law_476 : decode cL_law 476 = .ok (.lcmp, 1) := by decide +kernel
theorem dL_law_477 : decode cL_law 477 = .ok (.ifCond .eq 5, 3) := by decide +kernel
theorem dL_law_480 : decode cL_law 480 = .ok (.iconst 0, 1) := by decide +kernel
theorem dL_law_481 : decode cL_law 481 = .ok (.ireturn, 1) := by decide +kernel
theorem dL_law_482 : decode cL_law 482 = .ok (.goto 544, 3) := by decide +kernel
theorem dL_law_485 : decode cL_law 485 = .ok (.aload_n 1, 1) := by decide +kernel
theorem dL_law_486 : decode cL_law 486 = .ok (.invokevirtual 87, 3) := by decide +kernel
theorem dL_law_489 : decode cL_law 489 = .ok (.aload_n 2, 1) := by decide +kernel
theorem dL_law_490 : decode cL_law 490 = .ok (.invokevirtual 90, 3) := by decide +kernel
theorem dL_law_493 : decode cL_law 493 = .ok (.if_icmp .eq 533, 3) := by decide +kernel
theorem dL_law_496 : decode cL_law 496 = .ok (.iconst 0, 1) := by decide +kernel
theorem dL_law_497 : decode cL_law 497 = .ok (.ireturn, 1) := by decide +kernel
theorem dL_law_498 : decode cL_law 498 = .ok (.aload_n 1, 1) := by decide +kernel
theorem dL_law_499 : decode cL_law 499 = .ok (.invokevirtual 91, 3) := by decide +kernel
theorem dL_law_502 : decode cL_law 502 = .ok (.aload_n 2, 1) := by decide +kernel
theorem dL_law_503 : decode cL_law 503 = .ok (.invokevirtual 94, 3) := by decide +kernel
theorem dL_law_506 : decode cL_law 506 = .ok (.if_icmp .eq 520, 3) := by decide +kernel
theorem dL_law_509 : decode cL_law 509 = .ok (.iconst 0, 1) := by decide +kernel
theorem dL_law_510 : decode cL_law 510 = .ok (.ireturn, 1) := by decide +kernel
theorem dL_law_511 : decode cL_law 511 = .ok (.aload_n 1, 1) := by decide +kernel
theorem dL_law_512 : decode cL_law 512 = .ok (.aload_n 0, 1) := by decide +kernel
theorem dL_law_513 : decode cL_law 513 = .ok (.iload 4, 2) := by decide +kernel
theorem dL_law_515 : decode cL_law 515 = .ok (.iconst 1, 1) := by decide +kernel
theorem dL_law_516 : decode cL_law 516 = .ok (.iadd, 1) := by decide +kernel
theorem dL_law_517 : decode cL_law 517 = .ok (.iaload, 1) := by decide +kernel
theorem dL_law_518 : decode cL_law 518 = .ok (.aload_n 3, 1) := by decide +kernel
theorem dL_law_519 : decode cL_law 519 = .ok (.invokestatic 95, 3) := by decide +kernel
theorem dL_law_522 : decode cL_law 522 = .ok (.istore 5, 2) := by decide +kernel
theorem dL_law_524 : decode cL_law 524 = .ok (.aload_n 2, 1) := by decide +kernel
theorem dL_law_525 : decode cL_law 525 = .ok (.aload_n 0, 1) := by decide +kernel
theorem dL_law_526 : decode cL_law 526 = .ok (.iload 4, 2) := by decide +kernel
theorem dL_law_528 : decode cL_law 528 = .ok (.iconst 1, 1) := by decide +kernel
theorem dL_law_529 : decode cL_law 529 = .ok (.iadd, 1) := by decide +kernel
theorem dL_law_530 : decode cL_law 530 = .ok (.iaload, 1) := by decide +kernel
theorem dL_law_531 : decode cL_law 531 = .ok (.invokevirtual 97, 3) := by decide +kernel
theorem dL_law_534 : decode cL_law 534 = .ok (.istore 6, 2) := by decide +kernel
theorem dL_law_536 : decode cL_law 536 = .ok (.aload_n 2, 1) := by decide +kernel
theorem dL_law_537 : decode cL_law 537 = .ok (.invokevirtual 65, 3) := by decide +kernel
theorem dL_law_540 : decode cL_law 540 = .ok (.iload 5, 2) := by decide +kernel
theorem dL_law_542 : decode cL_law 542 = .ok (.if_icmp .eq 5, 3) := by decide +kernel
theorem dL_law_545 : decode cL_law 545 = .ok (.iconst 0, 1) := by decide +kernel
theorem dL_law_546 : decode cL_law 546 = .ok (.ireturn, 1) := by decide +kernel
theorem dL_law_547 : decode cL_law 547 = .ok (.iload 5, 2) := by decide +kernel
theorem dL_law_549 : decode cL_law 549 = .ok (.ifCond .ne 15, 3) := by decide +kernel
theorem dL_law_552 : decode cL_law 552 = .ok (.aload_n 3, 1) := by decide +kernel
theorem dL_law_553 : decode cL_law 553 = .ok (.iconst 0, 1) := by decide +kernel
theorem dL_law_554 : decode cL_law 554 = .ok (.laload, 1) := by decide +kernel
theorem dL_law_555 : decode cL_law 555 = .ok (.iload 6, 2) := by decide +kernel
theorem dL_law_557 : decode cL_law 557 = .ok (.i2l, 1) := by decide +kernel
theorem dL_law_558 : decode cL_law 558 = .ok (.lcmp, 1) := by decide +kernel
theorem dL_law_559 : decode cL_law 559 = .ok (.ifCond .eq 5, 3) := by decide +kernel
theorem dL_law_562 : decode cL_law 562 = .ok (.iconst 0, 1) := by decide +kernel
theorem dL_law_563 : decode cL_law 563 = .ok (.ireturn, 1) := by decide +kernel
theorem dL_law_564 : decode cL_law 564 = .ok (.goto 462, 3) := by decide +kernel
theorem dL_law_567 : decode cL_law 567 = .ok (.aload_n 1, 1) := by decide +kernel
theorem dL_law_568 : decode cL_law 568 = .ok (.invokevirtual 98, 3) := by decide +kernel
theorem dL_law_571 : decode cL_law 571 = .ok (.aload_n 2, 1) := by decide +kernel
theorem dL_law_572 : decode cL_law 572 = .ok (.invokevirtual 101, 3) := by decide +kernel
theorem dL_law_575 : decode cL_law 575 = .ok (.if_icmp .eq 451, 3) := by decide +kernel
theorem dL_law_578 : decode cL_law 578 = .ok (.iconst 0, 1) := by decide +kernel
theorem dL_law_579 : decode cL_law 579 = .ok (.ireturn, 1) := by decide +kernel
theorem dL_law_580 : decode cL_law 580 = .ok (.aload_n 1, 1) := by decide +kernel
theorem dL_law_581 : decode cL_law 581 = .ok (.aload_n 0, 1) := by decide +kernel
theorem dL_law_582 : decode cL_law 582 = .ok (.iload 4, 2) := by decide +kernel
theorem dL_law_584 : decode cL_law 584 = .ok (.iconst 1, 1) := by decide +kernel
theorem dL_law_585 : decode cL_law 585 = .ok (.iadd, 1) := by decide +kernel
theorem dL_law_586 : decode cL_law 586 = .ok (.iaload, 1) := by decide +kernel
theorem dL_law_587 : decode cL_law 587 = .ok (.aload_n 3, 1) := by decide +kernel
theorem dL_law_588 : decode cL_law 588 = .ok (.invokestatic 102, 3) := by decide +kernel
theorem dL_law_591 : decode cL_law 591 = .ok (.istore 5, 2) := by decide +kernel
theorem dL_law_593 : decode cL_law 593 = .ok (.aload_n 2, 1) := by decide +kernel
theorem dL_law_594 : decode cL_law 594 = .ok (.aload_n 0, 1) := by decide +kernel
theorem dL_law_595 : decode cL_law 595 = .ok (.iload 4, 2) := by decide +kernel
theorem dL_law_597 : decode cL_law 597 = .ok (.iconst 1, 1) := by decide +kernel
theorem dL_law_598 : decode cL_law 598 = .ok (.iadd, 1) := by decide +kernel
theorem dL_law_599 : decode cL_law 599 = .ok (.iaload, 1) := by decide +kernel
theorem dL_law_600 : decode cL_law 600 = .ok (.invokevirtual 104, 3) := by decide +kernel
theorem dL_law_603 : decode cL_law 603 = .ok (.istore 6, 2) := by decide +kernel
theorem dL_law_605 : decode cL_law 605 = .ok (.aload_n 2, 1) := by decide +kernel
theorem dL_law_606 : decode cL_law 606 = .ok (.invokevirtual 65, 3) := by decide +kernel
theorem dL_law_609 : decode cL_law 609 = .ok (.iload 5, 2) := by decide +kernel
theorem dL_law_611 : decode cL_law 611 = .ok (.if_icmp .eq 5, 3) := by decide +kernel
theorem dL_law_614 : decode cL_law 614 = .ok (.iconst 0, 1) := by decide +kernel
theorem dL_law_615 : decode cL_law 615 = .ok (.ireturn, 1) := by decide +kernel
theorem dL_law_616 : decode cL_law 616 = .ok (.iload 5, 2) := by decide +kernel
theorem dL_law_618 : decode cL_law 618 = .ok (.ifCond .ne 15, 3) := by decide +kernel
theorem dL_law_621 : decode cL_law 621 = .ok (.aload_n 3, 1) := by decide +kernel
theorem dL_law_622 : decode cL_law 622 = .ok (.iconst 0, 1) := by decide +kernel
theorem dL_law_623 : decode cL_law 623 = .ok (.laload, 1) := by decide +kernel
theorem dL_law_624 : decode cL_law 624 = .ok (.iload 6, 2) := by decide +kernel
theorem dL_law_626 : decode cL_law 626 = .ok (.i2l, 1) := by decide +kernel
theorem dL_law_627 : decode cL_law 627 = .ok (.lcmp, 1) := by decide +kernel
theorem dL_law_628 : decode cL_law 628 = .ok (.ifCond .eq 5, 3) := by decide +kernel
theorem dL_law_631 : decode cL_law 631 = .ok (.iconst 0, 1) := by decide +kernel
theorem dL_law_632 : decode cL_law 632 = .ok (.ireturn, 1) := by decide +kernel
theorem dL_law_633 : decode cL_law 633 = .ok (.goto 393, 3) := by decide +kernel
theorem dL_law_636 : decode cL_law 636 = .ok (.aload_n 1, 1) := by decide +kernel
theorem dL_law_637 : decode cL_law 637 = .ok (.aload_n 0, 1) := by decide +kernel
theorem dL_law_638 : decode cL_law 638 = .ok (.iload 4, 2) := by decide +kernel
theorem dL_law_640 : decode cL_law 640 = .ok (.iconst 1, 1) := by decide +kernel
theorem dL_law_641 : decode cL_law 641 = .ok (.iadd, 1) := by decide +kernel
theorem dL_law_642 : decode cL_law 642 = .ok (.iaload, 1) := by decide +kernel
theorem dL_law_643 : decode cL_law 643 = .ok (.aload_n 3, 1) := by decide +kernel
theorem dL_law_644 : decode cL_law 644 = .ok (.invokestatic 105, 3) := by decide +kernel
theorem dL_law_647 : decode cL_law 647 = .ok (.istore 5, 2) := by decide +kernel
theorem dL_law_649 : decode cL_law 649 = .ok (.aload_n 2, 1) := by decide +kernel
theorem dL_law_650 : decode cL_law 650 = .ok (.aload_n 0, 1) := by decide +kernel
theorem dL_law_651 : decode cL_law 651 = .ok (.iload 4, 2) := by decide +kernel
theorem dL_law_653 : decode cL_law 653 = .ok (.iconst 1, 1) := by decide +kernel
theorem dL_law_654 : decode cL_law 654 = .ok (.iadd, 1) := by decide +kernel
theorem dL_law_655 : decode cL_law 655 = .ok (.iaload, 1) := by decide +kernel
theorem dL_law_656 : decode cL_law 656 = .ok (.invokevirtual 107, 3) := by decide +kernel
theorem dL_law_659 : decode cL_law 659 = .ok (.istore 6, 2) := by decide +kernel
theorem dL_law_661 : decode cL_law 661 = .ok (.aload_n 2, 1) := by decide +kernel
theorem dL_law_662 : decode cL_law 662 = .ok (.invokevirtual 65, 3) := by decide +kernel
theorem dL_law_665 : decode cL_law 665 = .ok (.iload 5, 2) := by decide +kernel
theorem dL_law_667 : decode cL_law 667 = .ok (.if_icmp .eq 5, 3) := by decide +kernel
theorem dL_law_670 : decode cL_law 670 = .ok (.iconst 0, 1) := by decide +kernel
theorem dL_law_671 : decode cL_law 671 = .ok (.ireturn, 1) := by decide +kernel
theorem dL_law_672 : decode cL_law 672 = .ok (.iload 5, 2) := by decide +kernel
theorem dL_law_674 : decode cL_law 674 = .ok (.ifCond .ne 15, 3) := by decide +kernel
theorem dL_law_677 : decode cL_law 677 = .ok (.aload_n 3, 1) := by decide +kernel
theorem dL_law_678 : decode cL_law 678 = .ok (.iconst 0, 1) := by decide +kernel
theorem dL_law_679 : decode cL_law 679 = .ok (.laload, 1) := by decide +kernel
theorem dL_law_680 : decode cL_law 680 = .ok (.iload 6, 2) := by decide +kernel
theorem dL_law_682 : decode cL_law 682 = .ok (.i2l, 1) := by decide +kernel
theorem dL_law_683 : decode cL_law 683 = .ok (.lcmp, 1) := by decide +kernel
theorem dL_law_684 : decode cL_law 684 = .ok (.ifCond .eq 5, 3) := by decide +kernel
theorem dL_law_687 : decode cL_law 687 = .ok (.iconst 0, 1) := by decide +kernel
theorem dL_law_688 : decode cL_law 688 = .ok (.ireturn, 1) := by decide +kernel
theorem dL_law_689 : decode cL_law 689 = .ok (.goto 337, 3) := by decide +kernel
theorem dL_law_692 : decode cL_law 692 = .ok (.aload_n 1, 1) := by decide +kernel
theorem dL_law_693 : decode cL_law 693 = .ok (.aload_n 0, 1) := by decide +kernel
theorem dL_law_694 : decode cL_law 694 = .ok (.iload 4, 2) := by decide +kernel
theorem dL_law_696 : decode cL_law 696 = .ok (.iconst 1, 1) := by decide +kernel
theorem dL_law_697 : decode cL_law 697 = .ok (.iadd, 1) := by decide +kernel
theorem dL_law_698 : decode cL_law 698 = .ok (.iaload, 1) := by decide +kernel
theorem dL_law_699 : decode cL_law 699 = .ok (.aload_n 3, 1) := by decide +kernel
theorem dL_law_700 : decode cL_law 700 = .ok (.invokestatic 108, 3) := by decide +kernel
theorem dL_law_703 : decode cL_law 703 = .ok (.istore 5, 2) := by decide +kernel
theorem dL_law_705 : decode cL_law 705 = .ok (.aload_n 2, 1) := by decide +kernel
theorem dL_law_706 : decode cL_law 706 = .ok (.aload_n 0, 1) := by decide +kernel
theorem dL_law_707 : decode cL_law 707 = .ok (.iload 4, 2) := by decide +kernel
theorem dL_law_709 : decode cL_law 709 = .ok (.iconst 1, 1) := by decide +kernel
theorem dL_law_710 : decode cL_law 710 = .ok (.iadd, 1) := by decide +kernel
theorem dL_law_711 : decode cL_law 711 = .ok (.iaload, 1) := by decide +kernel
theorem dL_law_712 : decode cL_law 712 = .ok (.invokevirtual 110, 3) := by decide +kernel
theorem dL_law_715 : decode cL_law 715 = .ok (.istore 6, 2) := by decide +kernel
theorem dL_law_717 : decode cL_law 717 = .ok (.aload_n 2, 1) := by decide +kernel
theorem dL_law_718 : decode cL_law 718 = .ok (.invokevirtual 65, 3) := by decide +kernel
theorem dL_law_721 : decode cL_law 721 = .ok (.iload 5, 2) := by decide +kernel
theorem dL_law_723 : decode cL_law 723 = .ok (.if_icmp .eq 5, 3) := by decide +kernel
theorem dL_law_726 : decode cL_law 726 = .ok (.iconst 0, 1) := by decide +kernel
theorem dL_law_727 : decode cL_law 727 = .ok (.ireturn, 1) := by decide +kernel
theorem dL_law_728 : decode cL_law 728 = .ok (.iload 5, 2) := by decide +kernel
theorem dL_law_730 : decode cL_law 730 = .ok (.ifCond .ne 22, 3) := by decide +kernel
theorem dL_law_733 : decode cL_law 733 = .ok (.aload_n 3, 1) := by decide +kernel
theorem dL_law_734 : decode cL_law 734 = .ok (.iconst 0, 1) := by decide +kernel
theorem dL_law_735 : decode cL_law 735 = .ok (.laload, 1) := by decide +kernel
theorem dL_law_736 : decode cL_law 736 = .ok (.iload 6, 2) := by decide +kernel
theorem dL_law_738 : decode cL_law 738 = .ok (.ifCond .eq 7, 3) := by decide +kernel
theorem dL_law_741 : decode cL_law 741 = .ok (.lconst 1, 1) := by decide +kernel
theorem dL_law_742 : decode cL_law 742 = .ok (.goto 4, 3) := by decide +kernel
theorem dL_law_745 : decode cL_law 745 = .ok (.lconst 0, 1) := by decide +kernel
theorem dL_law_746 : decode cL_law 746 = .ok (.lcmp, 1) := by decide +kernel
theorem dL_law_747 : decode cL_law 747 = .ok (.ifCond .eq 5, 3) := by decide +kernel
theorem dL_law_750 : decode cL_law 750 = .ok (.iconst 0, 1) := by decide +kernel
theorem dL_law_751 : decode cL_law 751 = .ok (.ireturn, 1) := by decide +kernel
theorem dL_law_752 : decode cL_law 752 = .ok (.goto 274, 3) := by decide +kernel
theorem dL_law_755 : decode cL_law 755 = .ok (.aload_n 1, 1) := by decide +kernel
theorem dL_law_756 : decode cL_law 756 = .ok (.invokevirtual 111, 3) := by decide +kernel
theorem dL_law_759 : decode cL_law 759 = .ok (.aload_n 2, 1) := by decide +kernel
theorem dL_law_760 : decode cL_law 760 = .ok (.invokevirtual 114, 3) := by decide +kernel
theorem dL_law_763 : decode cL_law 763 = .ok (.if_icmp .eq 263, 3) := by decide +kernel
theorem dL_law_766 : decode cL_law 766 = .ok (.iconst 0, 1) := by decide +kernel
theorem dL_law_767 : decode cL_law 767 = .ok (.ireturn, 1) := by decide +kernel
theorem dL_law_768 : decode cL_law 768 = .ok (.aload_n 1, 1) := by decide +kernel
theorem dL_law_769 : decode cL_law 769 = .ok (.aload_n 0, 1) := by decide +kernel
theorem dL_law_770 : decode cL_law 770 = .ok (.iload 4, 2) := by decide +kernel
theorem dL_law_772 : decode cL_law 772 = .ok (.iconst 1, 1) := by decide +kernel
theorem dL_law_773 : decode cL_law 773 = .ok (.iadd, 1) := by decide +kernel
theorem dL_law_774 : decode cL_law 774 = .ok (.iaload, 1) := by decide +kernel
theorem dL_law_775 : decode cL_law 775 = .ok (.aload_n 3, 1) := by decide +kernel
theorem dL_law_776 : decode cL_law 776 = .ok (.invokestatic 115, 3) := by decide +kernel
theorem dL_law_779 : decode cL_law 779 = .ok (.istore 5, 2) := by decide +kernel
theorem dL_law_781 : decode cL_law 781 = .ok (.aload_n 2, 1) := by decide +kernel
theorem dL_law_782 : decode cL_law 782 = .ok (.aload_n 0, 1) := by decide +kernel
theorem dL_law_783 : decode cL_law 783 = .ok (.iload 4, 2) := by decide +kernel
theorem dL_law_785 : decode cL_law 785 = .ok (.iconst 1, 1) := by decide +kernel
theorem dL_law_786 : decode cL_law 786 = .ok (.iadd, 1) := by decide +kernel
theorem dL_law_787 : decode cL_law 787 = .ok (.iaload, 1) := by decide +kernel
theorem dL_law_788 : decode cL_law 788 = .ok (.invokevirtual 117, 3) := by decide +kernel
theorem dL_law_791 : decode cL_law 791 = .ok (.istore 6, 2) := by decide +kernel
theorem dL_law_793 : decode cL_law 793 = .ok (.aload_n 2, 1) := by decide +kernel
theorem dL_law_794 : decode cL_law 794 = .ok (.invokevirtual 65, 3) := by decide +kernel
theorem dL_law_797 : decode cL_law 797 = .ok (.iload 5, 2) := by decide +kernel
theorem dL_law_799 : decode cL_law 799 = .ok (.if_icmp .eq 5, 3) := by decide +kernel
theorem dL_law_802 : decode cL_law 802 = .ok (.iconst 0, 1) := by decide +kernel
theorem dL_law_803 : decode cL_law 803 = .ok (.ireturn, 1) := by decide +kernel
theorem dL_law_804 : decode cL_law 804 = .ok (.iload 5, 2) := by decide +kernel
theorem dL_law_806 : decode cL_law 806 = .ok (.ifCond .ne 15, 3) := by decide +kernel
theorem dL_law_809 : decode cL_law 809 = .ok (.aload_n 3, 1) := by decide +kernel
theorem dL_law_810 : decode cL_law 810 = .ok (.iconst 0, 1) := by decide +kernel
theorem dL_law_811 : decode cL_law 811 = .ok (.laload, 1) := by decide +kernel
theorem dL_law_812 : decode cL_law 812 = .ok (.iload 6, 2) := by decide +kernel
theorem dL_law_814 : decode cL_law 814 = .ok (.i2l, 1) := by decide +kernel
theorem dL_law_815 : decode cL_law 815 = .ok (.lcmp, 1) := by decide +kernel
theorem dL_law_816 : decode cL_law 816 = .ok (.ifCond .eq 5, 3) := by decide +kernel
theorem dL_law_819 : decode cL_law 819 = .ok (.iconst 0, 1) := by decide +kernel
theorem dL_law_820 : decode cL_law 820 = .ok (.ireturn, 1) := by decide +kernel
theorem dL_law_821 : decode cL_law 821 = .ok (.goto 205, 3) := by decide +kernel
theorem dL_law_824 : decode cL_law 824 = .ok (.aload_n 1, 1) := by decide +kernel
theorem dL_law_825 : decode cL_law 825 = .ok (.aload_n 0, 1) := by decide +kernel
theorem dL_law_826 : decode cL_law 826 = .ok (.iload 4, 2) := by decide +kernel
theorem dL_law_828 : decode cL_law 828 = .ok (.iconst 1, 1) := by decide +kernel
theorem dL_law_829 : decode cL_law 829 = .ok (.iadd, 1) := by decide +kernel
theorem dL_law_830 : decode cL_law 830 = .ok (.iaload, 1) := by decide +kernel
theorem dL_law_831 : decode cL_law 831 = .ok (.aload_n 3, 1) := by decide +kernel
theorem dL_law_832 : decode cL_law 832 = .ok (.invokestatic 118, 3) := by decide +kernel
theorem dL_law_835 : decode cL_law 835 = .ok (.istore 5, 2) := by decide +kernel
theorem dL_law_837 : decode cL_law 837 = .ok (.aload_n 2, 1) := by decide +kernel
theorem dL_law_838 : decode cL_law 838 = .ok (.aload_n 0, 1) := by decide +kernel
theorem dL_law_839 : decode cL_law 839 = .ok (.iload 4, 2) := by decide +kernel
theorem dL_law_841 : decode cL_law 841 = .ok (.iconst 1, 1) := by decide +kernel
theorem dL_law_842 : decode cL_law 842 = .ok (.iadd, 1) := by decide +kernel
theorem dL_law_843 : decode cL_law 843 = .ok (.iaload, 1) := by decide +kernel
theorem dL_law_844 : decode cL_law 844 = .ok (.invokevirtual 120, 3) := by decide +kernel
theorem dL_law_847 : decode cL_law 847 = .ok (.istore 6, 2) := by decide +kernel
theorem dL_law_849 : decode cL_law 849 = .ok (.aload_n 2, 1) := by decide +kernel
theorem dL_law_850 : decode cL_law 850 = .ok (.invokevirtual 65, 3) := by decide +kernel
theorem dL_law_853 : decode cL_law 853 = .ok (.iload 5, 2) := by decide +kernel
theorem dL_law_855 : decode cL_law 855 = .ok (.if_icmp .eq 5, 3) := by decide +kernel
theorem dL_law_858 : decode cL_law 858 = .ok (.iconst 0, 1) := by decide +kernel
theorem dL_law_859 : decode cL_law 859 = .ok (.ireturn, 1) := by decide +kernel
theorem dL_law_860 : decode cL_law 860 = .ok (.iload 5, 2) := by decide +kernel
theorem dL_law_862 : decode cL_law 862 = .ok (.ifCond .ne 15, 3) := by decide +kernel
theorem dL_law_865 : decode cL_law 865 = .ok (.aload_n 3, 1) := by decide +kernel
theorem dL_law_866 : decode cL_law 866 = .ok (.iconst 0, 1) := by decide +kernel
theorem dL_law_867 : decode cL_law 867 = .ok (.laload, 1) := by decide +kernel
theorem dL_law_868 : decode cL_law 868 = .ok (.iload 6, 2) := by decide +kernel
theorem dL_law_870 : decode cL_law 870 = .ok (.i2l, 1) := by decide +kernel
theorem dL_law_871 : decode cL_law 871 = .ok (.lcmp, 1) := by decide +kernel
theorem dL_law_872 : decode cL_law 872 = .ok (.ifCond .eq 5, 3) := by decide +kernel
theorem dL_law_875 : decode cL_law 875 = .ok (.iconst 0, 1) := by decide +kernel
theorem dL_law_876 : decode cL_law 876 = .ok (.ireturn, 1) := by decide +kernel
theorem dL_law_877 : decode cL_law 877 = .ok (.goto 149, 3) := by decide +kernel
theorem dL_law_880 : decode cL_law 880 = .ok (.aload_n 1, 1) := by decide +kernel
theorem dL_law_881 : decode cL_law 881 = .ok (.invokevirtual 121, 3) := by decide +kernel
theorem dL_law_884 : decode cL_law 884 = .ok (.aload_n 2, 1) := by decide +kernel
theorem dL_law_885 : decode cL_law 885 = .ok (.invokevirtual 124, 3) := by decide +kernel
theorem dL_law_888 : decode cL_law 888 = .ok (.if_icmp .eq 138, 3) := by decide +kernel
theorem dL_law_891 : decode cL_law 891 = .ok (.iconst 0, 1) := by decide +kernel
theorem dL_law_892 : decode cL_law 892 = .ok (.ireturn, 1) := by decide +kernel
theorem dL_law_893 : decode cL_law 893 = .ok (.aload_n 1, 1) := by decide +kernel
theorem dL_law_894 : decode cL_law 894 = .ok (.invokevirtual 125, 3) := by decide +kernel
theorem dL_law_897 : decode cL_law 897 = .ok (.aload_n 2, 1) := by decide +kernel
theorem dL_law_898 : decode cL_law 898 = .ok (.invokevirtual 128, 3) := by decide +kernel
theorem dL_law_901 : decode cL_law 901 = .ok (.if_icmp .eq 125, 3) := by decide +kernel
theorem dL_law_904 : decode cL_law 904 = .ok (.iconst 0, 1) := by decide +kernel
theorem dL_law_905 : decode cL_law 905 = .ok (.ireturn, 1) := by decide +kernel
theorem dL_law_906 : decode cL_law 906 = .ok (.aload_n 1, 1) := by decide +kernel
theorem dL_law_907 : decode cL_law 907 = .ok (.invokevirtual 129, 3) := by decide +kernel
theorem dL_law_910 : decode cL_law 910 = .ok (.aload_n 2, 1) := by decide +kernel
theorem dL_law_911 : decode cL_law 911 = .ok (.invokevirtual 132, 3) := by decide +kernel
theorem dL_law_914 : decode cL_law 914 = .ok (.if_icmp .eq 112, 3) := by decide +kernel
theorem dL_law_917 : decode cL_law 917 = .ok (.iconst 0, 1) := by decide +kernel
theorem dL_law_918 : decode cL_law 918 = .ok (.ireturn, 1) := by decide +kernel
theorem dL_law_919 : decode cL_law 919 = .ok (.aload_n 1, 1) := by decide +kernel
theorem dL_law_920 : decode cL_law 920 = .ok (.invokevirtual 133, 3) := by decide +kernel
theorem dL_law_923 : decode cL_law 923 = .ok (.aload_n 2, 1) := by decide +kernel
theorem dL_law_924 : decode cL_law 924 = .ok (.invokevirtual 136, 3) := by decide +kernel
theorem dL_law_927 : decode cL_law 927 = .ok (.if_icmp .eq 99, 3) := by decide +kernel
theorem dL_law_930 : decode cL_law 930 = .ok (.iconst 0, 1) := by decide +kernel
theorem dL_law_931 : decode cL_law 931 = .ok (.ireturn, 1) := by decide +kernel
theorem dL_law_932 : decode cL_law 932 = .ok (.aload_n 1, 1) := by decide +kernel
theorem dL_law_933 : decode cL_law 933 = .ok (.invokevirtual 137, 3) := by decide +kernel
theorem dL_law_936 : decode cL_law 936 = .ok (.aload_n 2, 1) := by decide +kernel
theorem dL_law_937 : decode cL_law 937 = .ok (.invokevirtual 140, 3) := by decide +kernel
theorem dL_law_940 : decode cL_law 940 = .ok (.if_icmp .eq 86, 3) := by decide +kernel
theorem dL_law_943 : decode cL_law 943 = .ok (.iconst 0, 1) := by decide +kernel
theorem dL_law_944 : decode cL_law 944 = .ok (.ireturn, 1) := by decide +kernel
theorem dL_law_945 : decode cL_law 945 = .ok (.aload_n 1, 1) := by decide +kernel
theorem dL_law_946 : decode cL_law 946 = .ok (.aload_n 0, 1) := by decide +kernel
theorem dL_law_947 : decode cL_law 947 = .ok (.iload 4, 2) := by decide +kernel
theorem dL_law_949 : decode cL_law 949 = .ok (.iconst 1, 1) := by decide +kernel
theorem dL_law_950 : decode cL_law 950 = .ok (.iadd, 1) := by decide +kernel
theorem dL_law_951 : decode cL_law 951 = .ok (.iaload, 1) := by decide +kernel
theorem dL_law_952 : decode cL_law 952 = .ok (.aload_n 0, 1) := by decide +kernel
theorem dL_law_953 : decode cL_law 953 = .ok (.iload 4, 2) := by decide +kernel
theorem dL_law_955 : decode cL_law 955 = .ok (.iconst 2, 1) := by decide +kernel
theorem dL_law_956 : decode cL_law 956 = .ok (.iadd, 1) := by decide +kernel
theorem dL_law_957 : decode cL_law 957 = .ok (.iaload, 1) := by decide +kernel
theorem dL_law_958 : decode cL_law 958 = .ok (.aload_n 3, 1) := by decide +kernel
theorem dL_law_959 : decode cL_law 959 = .ok (.invokestatic 141, 3) := by decide +kernel
theorem dL_law_962 : decode cL_law 962 = .ok (.istore 5, 2) := by decide +kernel
theorem dL_law_964 : decode cL_law 964 = .ok (.aload_n 2, 1) := by decide +kernel
theorem dL_law_965 : decode cL_law 965 = .ok (.aload_n 0, 1) := by decide +kernel
theorem dL_law_966 : decode cL_law 966 = .ok (.iload 4, 2) := by decide +kernel
theorem dL_law_968 : decode cL_law 968 = .ok (.iconst 1, 1) := by decide +kernel
theorem dL_law_969 : decode cL_law 969 = .ok (.iadd, 1) := by decide +kernel
theorem dL_law_970 : decode cL_law 970 = .ok (.iaload, 1) := by decide +kernel
theorem dL_law_971 : decode cL_law 971 = .ok (.aload_n 0, 1) := by decide +kernel
theorem dL_law_972 : decode cL_law 972 = .ok (.iload 4, 2) := by decide +kernel
theorem dL_law_974 : decode cL_law 974 = .ok (.iconst 2, 1) := by decide +kernel
theorem dL_law_975 : decode cL_law 975 = .ok (.iadd, 1) := by decide +kernel
theorem dL_law_976 : decode cL_law 976 = .ok (.iaload, 1) := by decide +kernel
theorem dL_law_977 : decode cL_law 977 = .ok (.invokevirtual 143, 3) := by decide +kernel
theorem dL_law_980 : decode cL_law 980 = .ok (.istore 6, 2) := by decide +kernel
theorem dL_law_982 : decode cL_law 982 = .ok (.aload_n 2, 1) := by decide +kernel
theorem dL_law_983 : decode cL_law 983 = .ok (.invokevirtual 65, 3) := by decide +kernel
theorem dL_law_986 : decode cL_law 986 = .ok (.iload 5, 2) := by decide +kernel
theorem dL_law_988 : decode cL_law 988 = .ok (.if_icmp .eq 5, 3) := by decide +kernel
theorem dL_law_991 : decode cL_law 991 = .ok (.iconst 0, 1) := by decide +kernel
theorem dL_law_992 : decode cL_law 992 = .ok (.ireturn, 1) := by decide +kernel
theorem dL_law_993 : decode cL_law 993 = .ok (.iload 5, 2) := by decide +kernel
theorem dL_law_995 : decode cL_law 995 = .ok (.ifCond .ne 15, 3) := by decide +kernel
theorem dL_law_998 : decode cL_law 998 = .ok (.aload_n 3, 1) := by decide +kernel
theorem dL_law_999 : decode cL_law 999 = .ok (.iconst 0, 1) := by decide +kernel
theorem dL_law_1000 : decode cL_law 1000 = .ok (.laload, 1) := by decide +kernel
theorem dL_law_1001 : decode cL_law 1001 = .ok (.iload 6, 2) := by decide +kernel
theorem dL_law_1003 : decode cL_law 1003 = .ok (.i2l, 1) := by decide +kernel
theorem dL_law_1004 : decode cL_law 1004 = .ok (.lcmp, 1) := by decide +kernel
theorem dL_law_1005 : decode cL_law 1005 = .ok (.ifCond .eq 5, 3) := by decide +kernel
theorem dL_law_1008 : decode cL_law 1008 = .ok (.iconst 0, 1) := by decide +kernel
theorem dL_law_1009 : decode cL_law 1009 = .ok (.ireturn, 1) := by decide +kernel
theorem dL_law_1010 : decode cL_law 1010 = .ok (.goto 16, 3) := by decide +kernel
theorem dL_law_1013 : decode cL_law 1013 = .ok (.aload_n 1, 1) := by decide +kernel
theorem dL_law_1014 : decode cL_law 1014 = .ok (.invokevirtual 144, 3) := by decide +kernel
theorem dL_law_1017 : decode cL_law 1017 = .ok (.aload_n 2, 1) := by decide +kernel
theorem dL_law_1018 : decode cL_law 1018 = .ok (.invokevirtual 147, 3) := by decide +kernel
theorem dL_law_1021 : decode cL_law 1021 = .ok (.if_icmp .eq 5, 3) := by decide +kernel
theorem dL_law_1024 : decode cL_law 1024 = .ok (.iconst 0, 1) := by decide +kernel
theorem dL_law_1025 : decode cL_law 1025 = .ok (.ireturn, 1) := by decide +kernel
theorem dL_law_1026 : decode cL_law 1026 = .ok (.iinc 4 4, 3) := by decide +kernel
theorem dL_law_1029 : decode cL_law 1029 = .ok (.goto (-1006), 3) := by decide +kernel
theorem dL_law_1032 : decode cL_law 1032 = .ok (.iconst 1, 1) := by decide +kernel
theorem dL_law_1033 : decode cL_law 1033 = .ok (.ireturn, 1) := by decide +kernel
abbrev vwCl : List vw_C := [(RX0, TX0, 11), (RX1, TX1, 4), (RX2, TX2, 5), (RX3, TX3, 16)]
end
section
/-! typed rows of arrays; instruction rows over numbers; contracts of one form; their calls and returns -/
def bI (b : Bool) : Int32 := if b then 1 else 0
def oI (o : Option Nat) : Int32 := match o with
  | none => -1
  | some q => nI q
def ru {α : Type} (f : Nat → α) (k : Nat) (v : α) : Nat → α := fun j => if j = k then v else f j
theorem ru_s {α : Type} (f : Nat → α) (k : Nat) (v : α) : ru f k v k = v := by simp [ru]
theorem ru_n {α : Type} (f : Nat → α) {k j : Nat} (v : α) (h : j ≠ k) : ru f k v j = f j := by simp [ru, h]
theorem upd_ru {α : Type} (en : α → Int32) (g : Nat → α) (k : Nat) (v : α) : upd (fun j => en (g j)) k (en v) = fun j => en (ru g k v j) := by
  funext j
  by_cases h : j = k
  · simp [upd, ru, h]
  · simp [upd, ru, h]
theorem upd_ruR (f : Nat → Int32) (k : Nat) (x : Int32) : upd f k x = ru f k x := by
  funext j
  by_cases h : j = k
  · simp [upd, ru, h]
  · simp [upd, ru, h]
theorem vp_nar_bI (b : Bool) : vp_nar .boolean (bI b) = bI b := by cases b <;> rfl
theorem narrow_bI (b : Bool) : narrow .boolean (.int (bI b)) = .int (bI b) := by cases b <;> rfl
theorem nI_m1 {q : Nat} (h : q < 2 ^ 31) : ¬ nI q = -1 := by
  intro e
  have h1 := congrArg Int32.toInt e
  rw [nI_toInt h] at h1
  have h2 : (-1 : Int32).toInt = -1 := by decide
  rw [h2] at h1
  omega
theorem nI_inj {a b : Nat} (ha : a < 2 ^ 31) (hb : b < 2 ^ 31) (e : nI a = nI b) : a = b := (nI_eq ha hb).mp e
theorem inc1 (k : Nat) : nI k + Int32.ofInt 1 = nI (k + 1) := by rw [nI_succ]; rfl
theorem dec1 {k : Nat} (h : 0 < k) : nI k + Int32.ofInt (-1) = nI (k - 1) := by
  obtain ⟨j, rfl⟩ : ∃ j, k = j + 1 := ⟨k - 1, by omega⟩
  exact pk_m1 j
theorem inc1R (x : Int32) : x + Int32.ofInt 1 = x + 1 := rfl
theorem inc4 (k : Nat) : nI k + Int32.ofInt 4 = nI (k + 4) := nI_add k 4
theorem row_eq {cA : ClassId} {n : Nat} {f g : Nat → Int32} (h : ∀ k, k < n → f k = g k) : vp_cell cA (n, .inl f) = vp_cell cA (n, .inl g) := by
  rw [vp_cell_i, vp_cell_i]
  unfold arrV
  have e : (fun j : Fin n => Value.int (f j.val)) = fun j => Value.int (g j.val) := funext fun j => by rw [h j.val j.isLt]
  rw [e]
section MQ
variable {p : Program} {l : Launch} {e : Env} {R : Room} {s : State} {m : MethodId} {args : Array Value} {below : List Frame} {meth : Method} {c : Code} {H : Heap} {locs : List Loc} {cells slots : Nat} {Q : State → Prop}
variable {cc : ByteArray} {pc : Nat} {ls : Array Slot} {rest : List Value} {D : va_G} {cl : List vw_C} {A : Nat → Prop} {a : Nat} {tys : List (ClassId × FieldType)} {ws ws' : va_W} {H0 : Heap}
/-- a row may be told anew where nobody sees it -/
theorem mq_row {q0 : Nat} {cA : ClassId} {n : Nat} {f g : Nat → Int32} (hP : va_P D cl ws H) (hD : va_D A ws) (ha : ws[q0]? = some (a, .inl (cA, n, .inl f))) (h : ∀ k, k < n → f k = g k) (hw : ws.set q0 (a, .inl (cA, n, .inl g)) = ws') : va_P D cl ws' H ∧ va_D A ws' := by
  subst hw
  refine ⟨hP.set hD ha ?_ (fun _ _ => rfl), hD.set ha⟩
  have h1 : H[a]? = some (vp_cell cA (n, .inl f)) := hP q0 _ ha
  show H[a]? = some (vp_cell cA (n, .inl g))
  rw [h1, row_eq h]
theorem mq_ld {α : Type} (en : α → Int32) (g : Nat → α) (hx : p.tables.exec = Jvm.exec) (hb : c.code = cc) (hK : va_K D cl tys s) (hP : va_P D cl ws H) (q0 t0 : Nat) {cA : ClassId} {n k : Nat} (ha : ws[q0]? = some (a, .inl (cA, n, .inl (fun j => en (g j))))) (ht : tys[t0]? = some (cA, .int)) (hk : k < n) (hn : n < 2 ^ 31) (hdg : decode cc pc = .ok (.iaload, 1))
    (kk : W p l e R s m args below meth c H locs cells slots Q (F0 m (pc + 1) ls (.int (en (g k)) :: rest))) : W p l e R s m args below meth c H locs cells slots Q (F0 m pc ls (.int (nI k) :: .ref a :: rest)) := by
  refine va_iald hx hb hK hP q0 t0 ha ht (vp_in_nI hk hn) hdg ?_
  rw [nI_clamp (Nat.lt_trans hk hn)]
  exact kk
theorem mq_ldR (g : Nat → Int32) (hx : p.tables.exec = Jvm.exec) (hb : c.code = cc) (hK : va_K D cl tys s) (hP : va_P D cl ws H) (q0 t0 : Nat) {cA : ClassId} {n k : Nat} (ha : ws[q0]? = some (a, .inl (cA, n, .inl g))) (ht : tys[t0]? = some (cA, .int)) (hk : k < n) (hn : n < 2 ^ 31) (hdg : decode cc pc = .ok (.iaload, 1))
    (kk : W p l e R s m args below meth c H locs cells slots Q (F0 m (pc + 1) ls (.int (g k) :: rest))) : W p l e R s m args below meth c H locs cells slots Q (F0 m pc ls (.int (nI k) :: .ref a :: rest)) := by
  refine va_iald hx hb hK hP q0 t0 ha ht (vp_in_nI hk hn) hdg ?_
  rw [nI_clamp (Nat.lt_trans hk hn)]
  exact kk
theorem mq_zld (g : Nat → Bool) (hx : p.tables.exec = Jvm.exec) (hb : c.code = cc) (hK : va_K D cl tys s) (hP : va_P D cl ws H) (q0 t0 : Nat) {cA : ClassId} {n k : Nat} (ha : ws[q0]? = some (a, .inl (cA, n, .inl (fun j => bI (g j))))) (ht : tys[t0]? = some (cA, .boolean)) (hk : k < n) (hn : n < 2 ^ 31) (hdg : decode cc pc = .ok (.baload, 1))
    (kk : W p l e R s m args below meth c H locs cells slots Q (F0 m (pc + 1) ls (.int (bI (g k)) :: rest))) : W p l e R s m args below meth c H locs cells slots Q (F0 m pc ls (.int (nI k) :: .ref a :: rest)) := by
  refine va_zald hx hb hK hP q0 t0 ha ht (vp_in_nI hk hn) hdg ?_
  rw [nI_clamp (Nat.lt_trans hk hn)]
  exact kk
theorem mq_st {α : Type} (en : α → Int32) (g : Nat → α) (v : α) (hx : p.tables.exec = Jvm.exec) (hb : c.code = cc) (hK : va_K D cl tys s) (hP : va_P D cl ws H) (hD : va_D A ws) (hS : va_S A H0 H locs) (q0 t0 : Nat) {cA : ClassId} {n k : Nat} (ha : ws[q0]? = some (a, .inl (cA, n, .inl (fun j => en (g j))))) (ht : tys[t0]? = some (cA, .int)) (hk : k < n) (hn : n < 2 ^ 31) (hdg : decode cc pc = .ok (.iastore, 1)) (hw : ws.set q0 (a, .inl (cA, n, .inl (fun j => en (ru g k v j)))) = ws')
    (kk : ∀ (H1 : Heap) (locs1 : List Loc), va_P D cl ws' H1 → va_D A ws' → va_S A H0 H1 locs1 → W p l e R s m args below meth c H1 locs1 cells slots Q (F0 m (pc + 1) ls rest)) : W p l e R s m args below meth c H locs cells slots Q (F0 m pc ls (.int (en v) :: .int (nI k) :: .ref a :: rest)) := by
  refine va_iast hx hb hK hP hD hS q0 t0 ha ht (vp_in_nI hk hn) hdg (fun H1 l1 h1 h2 h3 => ?_)
  rw [nI_clamp (Nat.lt_trans hk hn), upd_ru, hw] at h1 h2
  exact kk H1 l1 h1 h2 h3
theorem mq_stR (g : Nat → Int32) (v : Int32) (hx : p.tables.exec = Jvm.exec) (hb : c.code = cc) (hK : va_K D cl tys s) (hP : va_P D cl ws H) (hD : va_D A ws) (hS : va_S A H0 H locs) (q0 t0 : Nat) {cA : ClassId} {n k : Nat} (ha : ws[q0]? = some (a, .inl (cA, n, .inl g))) (ht : tys[t0]? = some (cA, .int)) (hk : k < n) (hn : n < 2 ^ 31) (hdg : decode cc pc = .ok (.iastore, 1)) (hw : ws.set q0 (a, .inl (cA, n, .inl (ru g k v))) = ws')
    (kk : ∀ (H1 : Heap) (locs1 : List Loc), va_P D cl ws' H1 → va_D A ws' → va_S A H0 H1 locs1 → W p l e R s m args below meth c H1 locs1 cells slots Q (F0 m (pc + 1) ls rest)) : W p l e R s m args below meth c H locs cells slots Q (F0 m pc ls (.int v :: .int (nI k) :: .ref a :: rest)) := by
  refine va_iast hx hb hK hP hD hS q0 t0 ha ht (vp_in_nI hk hn) hdg (fun H1 l1 h1 h2 h3 => ?_)
  rw [nI_clamp (Nat.lt_trans hk hn), upd_ruR, hw] at h1 h2
  exact kk H1 l1 h1 h2 h3
theorem mq_zst (g : Nat → Bool) (v : Bool) (hx : p.tables.exec = Jvm.exec) (hb : c.code = cc) (hK : va_K D cl tys s) (hP : va_P D cl ws H) (hD : va_D A ws) (hS : va_S A H0 H locs) (q0 t0 : Nat) {cA : ClassId} {n k : Nat} (ha : ws[q0]? = some (a, .inl (cA, n, .inl (fun j => bI (g j))))) (ht : tys[t0]? = some (cA, .boolean)) (hk : k < n) (hn : n < 2 ^ 31) (hdg : decode cc pc = .ok (.bastore, 1)) (hw : ws.set q0 (a, .inl (cA, n, .inl (fun j => bI (ru g k v j)))) = ws')
    (kk : ∀ (H1 : Heap) (locs1 : List Loc), va_P D cl ws' H1 → va_D A ws' → va_S A H0 H1 locs1 → W p l e R s m args below meth c H1 locs1 cells slots Q (F0 m (pc + 1) ls rest)) : W p l e R s m args below meth c H locs cells slots Q (F0 m pc ls (.int (bI v) :: .int (nI k) :: .ref a :: rest)) := by
  refine va_zast hx hb hK hP hD hS q0 t0 ha ht (vp_in_nI hk hn) hdg (fun H1 l1 h1 h2 h3 => ?_)
  rw [nI_clamp (Nat.lt_trans hk hn), vp_nar_bI, upd_ru, hw] at h1 h2
  exact kk H1 l1 h1 h2 h3
theorem mq_put (hx : p.tables.exec = Jvm.exec) (hb : c.code = cc) {own ref C : String} {T : u_T} {N ci index : Nat} {Ts : List Cond} (hts : ∀ w ∈ Ts, w.before args s = true) (hin : ∀ w ∈ u_ws C T N, w ∈ Ts) (ty0 : Nat → FieldType) (hty : ∀ k, k < N → parseFieldDescriptor (T k).2.2.1 = some (ty0 k)) (hnm : ∀ a, a < N → ∀ b, b < N → a ≠ b → (T a).2.1 ≠ (T b).2.1) (hown : s.vm.findClass own = some m.cls) (hK : va_K D cl tys s) (hP : va_P D cl ws H) (hD : va_D A ws) (hS0 : va_S A H0 H locs) (q0 : Nat) {fs : List Value} (he : ws[q0]? = some (a, .inr (ci, fs))) (hc : cl[ci]? = some (C, T, N)) (k : Nat) (hk : k < N) (hlink : (Cond.fieldLink own index ref (T k).2.1 (T k).2.2.1).before args s = true) (hsame : ∀ x, s.fieldFound? (T k).1 (T k).2.1 (T k).2.2.1 = some x → s.fieldFound? ref (T k).2.1 (T k).2.2.1 = some x) (hfin : (T k).2.2.2 = false) {ty : FieldType} {v : Value} (hd : parseFieldDescriptor (T k).2.2.1 = some ty) (hn : narrow ty v = v) (hfit : fits ty v = true) (hl : k < fs.length)
    (hdg : decode cc pc = .ok (.putfield index, 3)) (hw : ws.set q0 (a, .inr (ci, fs.set k v)) = ws') (kk : ∀ (H1 : Heap) (locs1 : List Loc), va_P D cl ws' H1 → va_D A ws' → va_S A H0 H1 locs1 → W p l e R s m args below meth c H1 locs1 cells slots Q (F0 m (pc + 3) ls rest)) : W p l e R s m args below meth c H locs cells slots Q (F0 m pc ls (v :: .ref a :: rest)) := by
  subst hw
  exact va_put hx hb hts hin ty0 hty hnm hown hK hP hD hS0 q0 he hc k hk hlink hsame hfin hd hn hfit hl hdg kk
theorem mq_putF (hx : p.tables.exec = Jvm.exec) (hb : c.code = cc) {own ref C : String} {T : u_T} {N ci index : Nat} {Ts : List Cond} (hts : ∀ w ∈ Ts, w.before args s = true) (hin : ∀ w ∈ u_ws C T N, w ∈ Ts) (ty0 : Nat → FieldType) (hty : ∀ k, k < N → parseFieldDescriptor (T k).2.2.1 = some (ty0 k)) (hnm : ∀ a, a < N → ∀ b, b < N → a ≠ b → (T a).2.1 ≠ (T b).2.1) (hown : s.vm.findClass own = some m.cls) (hK : va_K D cl tys s) (hP : va_P D cl ws H) (hD : va_D A ws) (hS0 : va_S A H0 H locs) (q0 : Nat) {fs : List Value} (he : ws[q0]? = some (a, .inr (ci, fs))) (hc : cl[ci]? = some (C, T, N)) (k : Nat) (hk : k < N) (hlink : (Cond.fieldLink own index ref (T k).2.1 (T k).2.2.1).before args s = true) (hsame : ∀ x, s.fieldFound? (T k).1 (T k).2.1 (T k).2.2.1 = some x → s.fieldFound? ref (T k).2.1 (T k).2.2.1 = some x) (hfin : (T k).2.2.2 = true) (hin2 : meth.name = "<init>") (hdecl : (T k).1 = own) {ty : FieldType} {v : Value} (hd : parseFieldDescriptor (T k).2.2.1 = some ty) (hn : narrow ty v = v) (hfit : fits ty v = true) (hl : k < fs.length)
    (hdg : decode cc pc = .ok (.putfield index, 3)) (hw : ws.set q0 (a, .inr (ci, fs.set k v)) = ws') (kk : ∀ (H1 : Heap) (locs1 : List Loc), va_P D cl ws' H1 → va_D A ws' → va_S A H0 H1 locs1 → W p l e R s m args below meth c H1 locs1 cells slots Q (F0 m (pc + 3) ls rest)) : W p l e R s m args below meth c H locs cells slots Q (F0 m pc ls (v :: .ref a :: rest)) := by
  subst hw
  exact va_putF hx hb hts hin ty0 hty hnm hown hK hP hD hS0 q0 he hc k hk hlink hsame hfin hin2 hdecl hd hn hfit hl hdg kk
theorem mq_iadd {x y : Nat} (hx : p.tables.exec = Jvm.exec) (hb : c.code = cc) (hdg : decode cc pc = .ok (.iadd, 1))
    (k : W p l e R s m args below meth c H locs cells slots Q (F0 m (pc + 1) ls (.int (nI (x + y)) :: rest))) : W p l e R s m args below meth c H locs cells slots Q (F0 m pc ls (.int (nI y) :: .int (nI x) :: rest)) := by
  refine lv_iadd hx hb hdg ?_
  rw [nI_add]; exact k
theorem mq_isub {x y : Nat} (h : y ≤ x) (hx : p.tables.exec = Jvm.exec) (hb : c.code = cc) (hdg : decode cc pc = .ok (.isub, 1))
    (k : W p l e R s m args below meth c H locs cells slots Q (F0 m (pc + 1) ls (.int (nI (x - y)) :: rest))) : W p l e R s m args below meth c H locs cells slots Q (F0 m pc ls (.int (nI y) :: .int (nI x) :: rest)) := by
  refine lv_isub hx hb hdg ?_
  rw [pk_sub h]; exact k
theorem mq_imul {x y : Nat} (hx : p.tables.exec = Jvm.exec) (hb : c.code = cc) (hdg : decode cc pc = .ok (.imul, 1))
    (k : W p l e R s m args below meth c H locs cells slots Q (F0 m (pc + 1) ls (.int (nI (x * y)) :: rest))) : W p l e R s m args below meth c H locs cells slots Q (F0 m pc ls (.int (nI y) :: .int (nI x) :: rest)) := by
  refine lv_imul hx hb hdg ?_
  rw [pk_mul]; exact k
theorem mq_idiv {x y : Nat} (ha : x < 2 ^ 31) (h0 : 0 < y) (hy : y < 2 ^ 31) (hx : p.tables.exec = Jvm.exec) (hb : c.code = cc) (hdg : decode cc pc = .ok (.idiv, 1))
    (k : W p l e R s m args below meth c H locs cells slots Q (F0 m (pc + 1) ls (.int (nI (x / y)) :: rest))) : W p l e R s m args below meth c H locs cells slots Q (F0 m pc ls (.int (nI y) :: .int (nI x) :: rest)) := by
  refine lv_idiv hx hb hdg (nI_ne0 h0 hy) ?_
  rw [pk_div ha h0 hy]; exact k
theorem mq_irem {x y : Nat} (ha : x < 2 ^ 31) (h0 : 0 < y) (hy : y < 2 ^ 31) (hx : p.tables.exec = Jvm.exec) (hb : c.code = cc) (hdg : decode cc pc = .ok (.irem, 1))
    (k : W p l e R s m args below meth c H locs cells slots Q (F0 m (pc + 1) ls (.int (nI (x % y)) :: rest))) : W p l e R s m args below meth c H locs cells slots Q (F0 m pc ls (.int (nI y) :: .int (nI x) :: rest)) := by
  refine lv_irem hx hb hdg (nI_ne0 h0 hy) ?_
  rw [pk_rem ha h0 hy]; exact k
theorem mq_ge {x y : Nat} (ha : x < 2 ^ 31) (hy : y < 2 ^ 31) (hx : p.tables.exec = Jvm.exec) (hb : c.code = cc) {off : Int} {tgt : Nat} (hdg : decode cc pc = .ok (.if_icmp .ge off, 3)) (ht : (pc : Int) + off = (tgt : Int))
    (kt : y ≤ x → W p l e R s m args below meth c H locs cells slots Q (F0 m tgt ls rest)) (kf : x < y → W p l e R s m args below meth c H locs cells slots Q (F0 m (pc + 3) ls rest)) : W p l e R s m args below meth c H locs cells slots Q (F0 m pc ls (.int (nI y) :: .int (nI x) :: rest)) :=
  lv_icmp_ge hx hb hdg ht (fun h => kt ((nI_leI hy ha).mp h)) (fun h => kf (Nat.not_le.mp fun h2 => h ((nI_leI hy ha).mpr h2)))
theorem mq_lt {x y : Nat} (ha : x < 2 ^ 31) (hy : y < 2 ^ 31) (hx : p.tables.exec = Jvm.exec) (hb : c.code = cc) {off : Int} {tgt : Nat} (hdg : decode cc pc = .ok (.if_icmp .lt off, 3)) (ht : (pc : Int) + off = (tgt : Int))
    (kt : x < y → W p l e R s m args below meth c H locs cells slots Q (F0 m tgt ls rest)) (kf : y ≤ x → W p l e R s m args below meth c H locs cells slots Q (F0 m (pc + 3) ls rest)) : W p l e R s m args below meth c H locs cells slots Q (F0 m pc ls (.int (nI y) :: .int (nI x) :: rest)) :=
  lv_icmp_lt hx hb hdg ht (fun h => kt ((nI_ltI ha hy).mp h)) (fun h => kf (Nat.not_lt.mp fun h2 => h ((nI_ltI ha hy).mpr h2)))
theorem mq_gt {x y : Nat} (ha : x < 2 ^ 31) (hy : y < 2 ^ 31) (hx : p.tables.exec = Jvm.exec) (hb : c.code = cc) {off : Int} {tgt : Nat} (hdg : decode cc pc = .ok (.if_icmp .gt off, 3)) (ht : (pc : Int) + off = (tgt : Int))
    (kt : y < x → W p l e R s m args below meth c H locs cells slots Q (F0 m tgt ls rest)) (kf : x ≤ y → W p l e R s m args below meth c H locs cells slots Q (F0 m (pc + 3) ls rest)) : W p l e R s m args below meth c H locs cells slots Q (F0 m pc ls (.int (nI y) :: .int (nI x) :: rest)) :=
  lv_icmp_gt hx hb hdg ht (fun h => kt ((nI_ltI hy ha).mp h)) (fun h => kf (Nat.not_lt.mp fun h2 => h ((nI_ltI hy ha).mpr h2)))
theorem mq_eq {x y : Nat} (ha : x < 2 ^ 31) (hy : y < 2 ^ 31) (hx : p.tables.exec = Jvm.exec) (hb : c.code = cc) {off : Int} {tgt : Nat} (hdg : decode cc pc = .ok (.if_icmp .eq off, 3)) (ht : (pc : Int) + off = (tgt : Int))
    (kt : x = y → W p l e R s m args below meth c H locs cells slots Q (F0 m tgt ls rest)) (kf : x ≠ y → W p l e R s m args below meth c H locs cells slots Q (F0 m (pc + 3) ls rest)) : W p l e R s m args below meth c H locs cells slots Q (F0 m pc ls (.int (nI y) :: .int (nI x) :: rest)) :=
  lv_icmp_eq hx hb hdg ht (fun h => kt (nI_inj ha hy h)) (fun h => kf fun h2 => h (congrArg nI h2))
theorem mq_ne {x y : Nat} (ha : x < 2 ^ 31) (hy : y < 2 ^ 31) (hx : p.tables.exec = Jvm.exec) (hb : c.code = cc) {off : Int} {tgt : Nat} (hdg : decode cc pc = .ok (.if_icmp .ne off, 3)) (ht : (pc : Int) + off = (tgt : Int))
    (kt : x ≠ y → W p l e R s m args below meth c H locs cells slots Q (F0 m tgt ls rest)) (kf : x = y → W p l e R s m args below meth c H locs cells slots Q (F0 m (pc + 3) ls rest)) : W p l e R s m args below meth c H locs cells slots Q (F0 m pc ls (.int (nI y) :: .int (nI x) :: rest)) :=
  lv_icmp_ne hx hb hdg ht (fun h => kt fun h2 => h (congrArg nI h2)) (fun h => kf (by
    by_cases h3 : nI x = nI y
    · exact nI_inj ha hy h3
    · exact absurd h h3))
theorem mq_z {x : Nat} (ha : x < 2 ^ 31) (hx : p.tables.exec = Jvm.exec) (hb : c.code = cc) {off : Int} {tgt : Nat} (hdg : decode cc pc = .ok (.ifCond .eq off, 3)) (ht : (pc : Int) + off = (tgt : Int))
    (kt : x = 0 → W p l e R s m args below meth c H locs cells slots Q (F0 m tgt ls rest)) (kf : 0 < x → W p l e R s m args below meth c H locs cells slots Q (F0 m (pc + 3) ls rest)) : W p l e R s m args below meth c H locs cells slots Q (F0 m pc ls (.int (nI x) :: rest)) :=
  lv_if_eq hx hb hdg ht (fun h => kt (nI_inj ha (by decide) (h.trans nI_0.symm))) (fun h => kf (Nat.pos_of_ne_zero fun h2 => h (by rw [h2]; exact nI_0)))
theorem mq_nz {x : Nat} (ha : x < 2 ^ 31) (hx : p.tables.exec = Jvm.exec) (hb : c.code = cc) {off : Int} {tgt : Nat} (hdg : decode cc pc = .ok (.ifCond .ne off, 3)) (ht : (pc : Int) + off = (tgt : Int))
    (kt : 0 < x → W p l e R s m args below meth c H locs cells slots Q (F0 m tgt ls rest)) (kf : x = 0 → W p l e R s m args below meth c H locs cells slots Q (F0 m (pc + 3) ls rest)) : W p l e R s m args below meth c H locs cells slots Q (F0 m pc ls (.int (nI x) :: rest)) :=
  lv_if_ne hx hb hdg ht (fun h => kt (Nat.pos_of_ne_zero fun h2 => h (by rw [h2]; exact nI_0))) (fun h => kf (nI_inj ha (by decide) (h.trans nI_0.symm)))
theorem mq_bz {b : Bool} (hx : p.tables.exec = Jvm.exec) (hb : c.code = cc) {off : Int} {tgt : Nat} (hdg : decode cc pc = .ok (.ifCond .eq off, 3)) (ht : (pc : Int) + off = (tgt : Int))
    (kt : b = false → W p l e R s m args below meth c H locs cells slots Q (F0 m tgt ls rest)) (kf : b = true → W p l e R s m args below meth c H locs cells slots Q (F0 m (pc + 3) ls rest)) : W p l e R s m args below meth c H locs cells slots Q (F0 m pc ls (.int (bI b) :: rest)) :=
  lv_if_eq hx hb hdg ht (fun h => kt (by cases b; rfl; exact absurd h (by decide))) (fun h => kf (by cases b; exact absurd rfl h; rfl))
theorem mq_bnz {b : Bool} (hx : p.tables.exec = Jvm.exec) (hb : c.code = cc) {off : Int} {tgt : Nat} (hdg : decode cc pc = .ok (.ifCond .ne off, 3)) (ht : (pc : Int) + off = (tgt : Int))
    (kt : b = true → W p l e R s m args below meth c H locs cells slots Q (F0 m tgt ls rest)) (kf : b = false → W p l e R s m args below meth c H locs cells slots Q (F0 m (pc + 3) ls rest)) : W p l e R s m args below meth c H locs cells slots Q (F0 m pc ls (.int (bI b) :: rest)) :=
  lv_if_ne hx hb hdg ht (fun h => kt (by cases b; exact absurd rfl h; rfl)) (fun h => kf (by cases b; rfl; exact absurd h (by decide)))
end MQ
/-! contracts of one form: a world before, a world behind, an answer -/
def ctP (D : va_G) (tys : List (ClassId × FieldType)) (w : va_W) (sz : Nat) (U : State) : Prop := U.heap.size = sz ∧ va_P D vwCl w U.heap ∧ va_K D vwCl tys U ∧ va_D (fun _ => True) w
def ctE (D : va_G) (tys : List (ClassId × FieldType)) (w' : va_W) (A : Nat → Prop) (t : State) : Prop := va_P D vwCl w' t.heap ∧ va_K D vwCl tys t ∧ va_D A w'
theorem ctP_blind {D : va_G} {tys : List (ClassId × FieldType)} {w : va_W} {sz : Nat} {av : List Value} : FrameBlind (va_Pc av (ctP D tys w sz)) := fun a U g mk q => by
  obtain ⟨q0, q1, qP, qK, qD⟩ := q
  exact ⟨q0, q1, qP, va_K.moved (u := U) (U := U.calling g mk a) (Vm.Alike.refl U.vm) qK, qD⟩
abbrev ctQi (D : va_G) (tys : List (ClassId × FieldType)) (v : Int32) (w' : va_W) (A : Nat → Prop) : Array Value → State → Outcome → State → Prop := va_Qi (fun (r : Int32) (_ : Unit) => r = v) (fun _ => ctE D tys w' A) A
abbrev ctQv (D : va_G) (tys : List (ClassId × FieldType)) (w' : va_W) (A : Nat → Prop) : Array Value → State → Outcome → State → Prop := va_Qv (fun _ : Unit => True) (fun _ => ctE D tys w' A) A
def CtI (l : Launch) (y : MethodName) (ws : List Cond) (rm : Room) (D : va_G) (tys : List (ClassId × FieldType)) (av : List Value) (w : va_W) (v : Int32) (w' : va_W) : Prop :=
  ∀ sz : Nat, Met l y ws rm (va_Pc av (ctP D tys w sz)) (ctQi D tys v w' (va_A w sz)) 0 0 (va_A w sz)
def CtV (l : Launch) (y : MethodName) (ws : List Cond) (rm : Room) (D : va_G) (tys : List (ClassId × FieldType)) (av : List Value) (w : va_W) (w' : va_W) : Prop :=
  ∀ sz : Nat, Met l y ws rm (va_Pc av (ctP D tys w sz)) (ctQv D tys w' (va_A w sz)) 0 0 (va_A w sz)
theorem CtI.of {l : Launch} {y : MethodName} {ws ws0 : List Cond} {rm : Room} {D : va_G} {tys : List (ClassId × FieldType)} {av : List Value} {w : va_W} {v : Int32} {w' : va_W} {cc : ByteArray} {maxL : Nat} {ret : Option FieldType} {lv0 : List (Nat × Value)}
    (hy : plainName y.cls = true) (hw : ws = Cond.code y cc maxL ret :: ws0) (hle : (lg_sl av).length ≤ maxL) (hlv : lv_args 0 av = lv0)
    (body : ∀ (p : Program) (e : Env) (s : State) (m : MethodId) (below : List Frame) (meth : Method) (c : Code) (A : Nat → Prop) (ls : Array Slot) (args : Array Value) (Q : State → Prop), p.tables.exec = Jvm.exec → c.code = cc → c.maxLocals = maxL → meth.sig.returnType = ret → meth.locks = false → (∀ wd ∈ ws, wd.before args s = true) → s.vm.findClass y.cls = some m.cls → va_K D vwCl tys s → va_P D vwCl w s.heap → (∀ q : Nat, s.heap.size ≤ q → A q) → va_D A w → va_S A s.heap s.heap [] → lv_has ls maxL lv0 →
      Q = MQ below (ctQi D tys v w' A) args s 0 0 A → W p l e rm s m args below meth c s.heap [] 0 0 Q (F0 m 0 ls [])) : CtI l y ws rm D tys av w v w' := by
  intro sz
  refine Met.ofW (cc := cc) (maxL := maxL) (ret := ret) hy hw ?_
  intro p e s m args below meth c s₁ B hml hv
  obtain ⟨rfl, hsz, hP, hK, hD0⟩ := hv
  have hts := atoms_spec (ws := ws) B.pre
  subst hsz
  have hl := lv_entry av (n := maxL) hle
  rw [hlv] at hl
  rw [lg_entry_eq]
  have hD : va_D (va_A w s.heap.size) w := hD0.self (sz := s.heap.size)
  exact body p e s m below meth c (va_A w s.heap.size) _ _ _ B.exec B.bytes hml B.returns B.notSynchronized hts (findClass_of_methodNamed B.named) hK hP (fun q h => Or.inr h) hD va_S.rf hl rfl
theorem CtV.of {l : Launch} {y : MethodName} {ws ws0 : List Cond} {rm : Room} {D : va_G} {tys : List (ClassId × FieldType)} {av : List Value} {w : va_W} {w' : va_W} {cc : ByteArray} {maxL : Nat} {ret : Option FieldType} {lv0 : List (Nat × Value)}
    (hy : plainName y.cls = true) (hw : ws = Cond.code y cc maxL ret :: ws0) (hle : (lg_sl av).length ≤ maxL) (hlv : lv_args 0 av = lv0)
    (body : ∀ (p : Program) (e : Env) (s : State) (m : MethodId) (below : List Frame) (meth : Method) (c : Code) (A : Nat → Prop) (ls : Array Slot) (args : Array Value) (Q : State → Prop), p.tables.exec = Jvm.exec → c.code = cc → c.maxLocals = maxL → meth.sig.returnType = ret → meth.locks = false → (∀ wd ∈ ws, wd.before args s = true) → s.vm.findClass y.cls = some m.cls → va_K D vwCl tys s → va_P D vwCl w s.heap → (∀ q : Nat, s.heap.size ≤ q → A q) → va_D A w → va_S A s.heap s.heap [] → lv_has ls maxL lv0 →
      Q = MQ below (ctQv D tys w' A) args s 0 0 A → W p l e rm s m args below meth c s.heap [] 0 0 Q (F0 m 0 ls [])) : CtV l y ws rm D tys av w w' := by
  intro sz
  refine Met.ofW (cc := cc) (maxL := maxL) (ret := ret) hy hw ?_
  intro p e s m args below meth c s₁ B hml hv
  obtain ⟨rfl, hsz, hP, hK, hD0⟩ := hv
  have hts := atoms_spec (ws := ws) B.pre
  subst hsz
  have hl := lv_entry av (n := maxL) hle
  rw [hlv] at hl
  rw [lg_entry_eq]
  have hD : va_D (va_A w s.heap.size) w := hD0.self (sz := s.heap.size)
  exact body p e s m below meth c (va_A w s.heap.size) _ _ _ B.exec B.bytes hml B.returns B.notSynchronized hts (findClass_of_methodNamed B.named) hK hP (fun q h => Or.inr h) hD va_S.rf hl rfl
section CT
variable {p : Program} {l : Launch} {e : Env} {R : Room} {s : State} {m : MethodId} {args : Array Value} {below : List Frame} {meth : Method} {c : Code} {H : Heap} {locs : List Loc} {cells slots : Nat} {Q : State → Prop}
variable {cc : ByteArray} {pc : Nat} {ls : Array Slot} {rest st0 : List Value} {D : va_G} {A : Nat → Prop} {tys : List (ClassId × FieldType)} {ws ws' w' : va_W}
theorem CtI.ret {v r : Int32} (hQ : Q = MQ below (ctQi D tys v w' A) args s 0 0 A) (hx : p.tables.exec = Jvm.exec) (hb : c.code = cc) (hr : meth.sig.returnType = some .int) (hlk : meth.locks = false) (hK : va_K D vwCl tys s) (hP : va_P D vwCl ws H) (hD : va_D A ws) (hS : va_S A s.heap H locs) (hdg : decode cc pc = .ok (.ireturn, 1)) (hv : r = v) (hw : ws = w') :
    W p l e R s m args below meth c H locs 0 0 Q (F0 m pc ls [.int r]) := by
  subst hQ; subst hw; subst hv
  exact W.iret hx hb hr (fun t ht hW => ⟨⟨r, (), rfl, rfl, by rw [ht]; exact hP, va_K.moved hW.alike hK, hD⟩, hS.F ht⟩) hS.2.2 hdg hlk
theorem CtI.zret {v r : Int32} {ty : FieldType} (hQ : Q = MQ below (ctQi D tys v w' A) args s 0 0 A) (hx : p.tables.exec = Jvm.exec) (hb : c.code = cc) (hr : meth.sig.returnType = some ty) (hn : narrow ty (.int r) = .int r) (hlk : meth.locks = false) (hK : va_K D vwCl tys s) (hP : va_P D vwCl ws H) (hD : va_D A ws) (hS : va_S A s.heap H locs) (hdg : decode cc pc = .ok (.ireturn, 1)) (hv : r = v) (hw : ws = w') :
    W p l e R s m args below meth c H locs 0 0 Q (F0 m pc ls [.int r]) := by
  subst hQ; subst hw; subst hv
  exact W.zret hx hb hr hn (fun t ht hW => ⟨⟨r, (), rfl, rfl, by rw [ht]; exact hP, va_K.moved hW.alike hK, hD⟩, hS.F ht⟩) hS.2.2 hdg hlk
theorem CtV.ret (hQ : Q = MQ below (ctQv D tys w' A) args s 0 0 A) (hx : p.tables.exec = Jvm.exec) (hb : c.code = cc) (hr : meth.sig.returnType = none) (hlk : meth.locks = false) (hK : va_K D vwCl tys s) (hP : va_P D vwCl ws H) (hD : va_D A ws) (hS : va_S A s.heap H locs) (hdg : decode cc pc = .ok (.return_, 1)) (hw : ws = w') :
    W p l e R s m args below meth c H locs 0 0 Q (F0 m pc ls []) := by
  subst hQ; subst hw
  exact W.vret hx hb hr (fun t ht hW => ⟨⟨(), rfl, trivial, by rw [ht]; exact hP, va_K.moved hW.alike hK, hD⟩, hS.F ht⟩) hS.2.2 hdg hlk
theorem ct_fm {is : List Nat} {wa wb : va_W} (h : is.map (fun i => wa[i]?) = wb.map some) : is.filterMap (fun i => wa[i]?) = wb := by
  induction is generalizing wb with
  | nil =>
    cases wb with
    | nil => rfl
    | cons b bs => simp at h
  | cons i is ih =>
    cases wb with
    | nil => simp at h
    | cons b bs =>
      simp only [List.map_cons, List.cons.injEq] at h
      rw [List.filterMap_cons, h.1]
      show b :: _ = b :: bs
      rw [ih h.2]
/-- the caller's places of the callee's world; of the rest; and where each cell of the world behind comes from -/
def ctJ (ws wc wr w1 ws' : va_W) (isC isR ps : List Nat) : Prop := isC.map (fun i => ws[i]?) = wc.map some ∧ isR.map (fun i => ws[i]?) = wr.map some ∧ va_nd isC = true ∧ va_nd isR = true ∧ (isR.all fun i => decide (i ∉ isC)) = true ∧ ps.map (fun i => (wr ++ w1)[i]?) = ws'.map some ∧ va_nd ps = true
theorem ct_pre {wc : va_W} {av : List Value} {isC : List Nat} (hK : va_K D vwCl tys s) (hP : va_P D vwCl ws H) (hD : va_D A ws) (hC : isC.map (fun i => ws[i]?) = wc.map some) (hn : va_nd isC = true) : ∀ U : State, U.heap = H → s.WarmedH U.vm → va_Pc av (ctP D tys wc H.size) av.toArray U := by
  intro U hU hW
  exact ⟨rfl, by rw [hU], by rw [hU]; exact hP.sub isC (ct_fm hC), va_K.moved hW.alike hK, (hD.sub isC hn hC).weaken (fun _ _ _ _ => trivial)⟩
theorem ct_back {wc wr w1 : va_W} {isC isR ps : List Nat} {H1 : Heap} {t : State} (hJ : ctJ ws wc wr w1 ws' isC isR ps) (hP : va_P D vwCl ws H) (hD : va_D A ws) (hS : va_S A s.heap H locs) (hA : ∀ q : Nat, s.heap.size ≤ q → A q) (ht : t.heap = H1) (hB : ctE D tys w1 (va_A wc H.size) t) (hk : ∀ q : Nat, q < H.size → ¬ va_A wc H.size q → H1[q]? = H[q]?) : va_P D vwCl ws' H1 ∧ va_D A ws' := by
  obtain ⟨hC, hR, hnC, hnR, hdis, hps, hpn⟩ := hJ
  obtain ⟨hP1, -, hD1⟩ := hB
  rw [ht] at hP1
  obtain ⟨j1, j2⟩ := va_join hP hD isC isR hC hR hnR (fun i hi => by have := List.all_eq_true.mp hdis i hi; exact of_decide_eq_true this) hk (va_free hD hS hA isC hC) hP1 hD1
  exact ⟨j1.sub ps (ct_fm hps), j2.sub ps hpn hps⟩
/-- the code of a callee's call site that doesn't depend on the state -/
abbrev ctF (p : Program) (m : MethodId) (c : Code) (cc : ByteArray) (s : State) (args : Array Value) (Ts : List Cond) (own : String) : Prop := p.tables.exec = Jvm.exec ∧ c.code = cc ∧ s.vm.findClass own = some m.cls ∧ ∀ w ∈ Ts, w.before args s = true
theorem CtI.callV {y : MethodName} {wsy wsy0 : List Cond} {rmy : Room} {by_ : ByteArray} {maxLy nL n index : Nat} {rt : Option FieldType} {b ci q0 : Nat} {fs : List Value} {As : List Value} {Ts : List Cond} {own C : String} {qc : vw_C} {wc wr w1 : va_W} {isC isR ps : List Nat} {v : Int32}
    (hM : CtI l y wsy rmy D tys (.ref b :: As) wc v w1) (S : ctF p m c cc s args Ts own) (hG : GoodIn Ts (wsV own index C y wsy)) (hwy : wsy = Cond.code y by_ maxLy rt :: wsy0)
    (hd : y.cls = C ∧ y.cls ≠ "java/lang/invoke/MethodHandle" ∧ y.cls ≠ "java/lang/invoke/VarHandle" ∧ (parseMethodDescriptor y.desc).map (fun d => d.parameters.length) = some n) (hR : rmy.frames + 1 ≤ R.frames ∧ 8 + (maxLy + 11) + rmy.locals ≤ R.locals) (hrc : rmy.cells = 0 ∧ rmy.slots = 0) (hml : c.maxLocals = nL) (hls : ls.size = nL)
    (hK : va_K D vwCl tys s) (hP : va_P D vwCl ws H) (hD : va_D A ws) (hS : va_S A s.heap H locs) (hA : ∀ q : Nat, s.heap.size ≤ q → A q) (hJ : ctJ ws wc wr w1 ws' isC isR ps) (hrv : wc[q0]? = some (b, .inr (ci, fs))) (hcl : vwCl[ci]? = some qc ∧ qc.1 = C)
    (hst : st0 = As.reverse ++ .ref b :: rest) (hn : As.length = n) (hcat : (rest.map fun v => v.category).sum ≤ 8) (hcel : cells ≤ R.cells ∧ slots ≤ R.slots) (hdg : decode cc pc = .ok (.invokevirtual index, 3))
    (kk : ∀ (H1 : Heap) (locs1 : List Loc), va_P D vwCl ws' H1 → va_D A ws' → va_S A s.heap H1 locs1 → W p l e R s m args below meth c H1 locs1 cells slots Q (F0 m (pc + 3) ls (.int v :: rest))) : W p l e R s m args below meth c H locs cells slots Q (F0 m pc ls st0) := by
  obtain ⟨hx, hb, hown, hts⟩ := S
  have hF := va_free hD hS hA isC hJ.1
  have hPc := hP.sub isC (ct_fm hJ.1)
  have hrec := va_recv hK hPc hcl.1 hrv
  rw [hcl.2] at hrec
  refine va_calli (va_runV (As := As) (rest := rest) ⟨hx, hb, hml, hown, hts⟩ (hM H.size) (cwV n hts hG hwy hrc.1 hrc.2 hd hR) ⟨ctP_blind, hrec, ct_pre hK hP hD hJ.1 hJ.2.2.1⟩ rfl hn hls hst (lv_room hcat) hdg ⟨hcel.1, hcel.2⟩) hS (fun q _ h => hF q h) hF (fun r u t H1 locs1 ht hvm hw hB hz1 hk1 hS1 => ?_)
  obtain ⟨j1, j2⟩ := ct_back hJ hP hD hS hA ht hB hk1
  subst hw
  exact kk H1 locs1 j1 j2 hS1
theorem CtV.callV {y : MethodName} {wsy wsy0 : List Cond} {rmy : Room} {by_ : ByteArray} {maxLy nL n index : Nat} {rt : Option FieldType} {b ci q0 : Nat} {fs : List Value} {As : List Value} {Ts : List Cond} {own C : String} {qc : vw_C} {wc wr w1 : va_W} {isC isR ps : List Nat}
    (hM : CtV l y wsy rmy D tys (.ref b :: As) wc w1) (S : ctF p m c cc s args Ts own) (hG : GoodIn Ts (wsV own index C y wsy)) (hwy : wsy = Cond.code y by_ maxLy rt :: wsy0)
    (hd : y.cls = C ∧ y.cls ≠ "java/lang/invoke/MethodHandle" ∧ y.cls ≠ "java/lang/invoke/VarHandle" ∧ (parseMethodDescriptor y.desc).map (fun d => d.parameters.length) = some n) (hR : rmy.frames + 1 ≤ R.frames ∧ 8 + (maxLy + 11) + rmy.locals ≤ R.locals) (hrc : rmy.cells = 0 ∧ rmy.slots = 0) (hml : c.maxLocals = nL) (hls : ls.size = nL)
    (hK : va_K D vwCl tys s) (hP : va_P D vwCl ws H) (hD : va_D A ws) (hS : va_S A s.heap H locs) (hA : ∀ q : Nat, s.heap.size ≤ q → A q) (hJ : ctJ ws wc wr w1 ws' isC isR ps) (hrv : wc[q0]? = some (b, .inr (ci, fs))) (hcl : vwCl[ci]? = some qc ∧ qc.1 = C)
    (hst : st0 = As.reverse ++ .ref b :: rest) (hn : As.length = n) (hcat : (rest.map fun v => v.category).sum ≤ 8) (hcel : cells ≤ R.cells ∧ slots ≤ R.slots) (hdg : decode cc pc = .ok (.invokevirtual index, 3))
    (kk : ∀ (H1 : Heap) (locs1 : List Loc), va_P D vwCl ws' H1 → va_D A ws' → va_S A s.heap H1 locs1 → W p l e R s m args below meth c H1 locs1 cells slots Q (F0 m (pc + 3) ls rest)) : W p l e R s m args below meth c H locs cells slots Q (F0 m pc ls st0) := by
  obtain ⟨hx, hb, hown, hts⟩ := S
  have hF := va_free hD hS hA isC hJ.1
  have hPc := hP.sub isC (ct_fm hJ.1)
  have hrec := va_recv hK hPc hcl.1 hrv
  rw [hcl.2] at hrec
  refine va_callv (va_runV (As := As) (rest := rest) ⟨hx, hb, hml, hown, hts⟩ (hM H.size) (cwV n hts hG hwy hrc.1 hrc.2 hd hR) ⟨ctP_blind, hrec, ct_pre hK hP hD hJ.1 hJ.2.2.1⟩ rfl hn hls hst (lv_room hcat) hdg ⟨hcel.1, hcel.2⟩) hS (fun q _ h => hF q h) hF (fun u t H1 locs1 ht hvm hw hB hz1 hk1 hS1 => ?_)
  obtain ⟨j1, j2⟩ := ct_back hJ hP hD hS hA ht hB hk1
  exact kk H1 locs1 j1 j2 hS1
theorem CtI.callS {y : MethodName} {wsy wsy0 : List Cond} {rmy : Room} {by_ : ByteArray} {maxLy nL n index : Nat} {rt : Option FieldType} {As : List Value} {Ts : List Cond} {own : String} {wc wr w1 : va_W} {isC isR ps : List Nat} {v : Int32}
    (hM : CtI l y wsy rmy D tys As wc v w1) (S : ctF p m c cc s args Ts own) (hG : GoodIn Ts (va_wsS own index y wsy)) (hwy : wsy = Cond.code y by_ maxLy rt :: wsy0)
    (hd : y.cls ≠ "java/lang/invoke/MethodHandle" ∧ y.cls ≠ "java/lang/invoke/VarHandle" ∧ (parseMethodDescriptor y.desc).map (fun d => d.parameters.length) = some n) (hR : rmy.frames + 1 ≤ R.frames ∧ 8 + (maxLy + 11) + rmy.locals ≤ R.locals) (hrc : rmy.cells = 0 ∧ rmy.slots = 0) (hml : c.maxLocals = nL) (hls : ls.size = nL)
    (hK : va_K D vwCl tys s) (hP : va_P D vwCl ws H) (hD : va_D A ws) (hS : va_S A s.heap H locs) (hA : ∀ q : Nat, s.heap.size ≤ q → A q) (hJ : ctJ ws wc wr w1 ws' isC isR ps)
    (hst : st0 = As.reverse ++ rest) (hn : As.length = n) (hcat : (rest.map fun v => v.category).sum ≤ 8) (hcel : cells ≤ R.cells ∧ slots ≤ R.slots) (hdg : decode cc pc = .ok (.invokestatic index, 3))
    (kk : ∀ (H1 : Heap) (locs1 : List Loc), va_P D vwCl ws' H1 → va_D A ws' → va_S A s.heap H1 locs1 → W p l e R s m args below meth c H1 locs1 cells slots Q (F0 m (pc + 3) ls (.int v :: rest))) : W p l e R s m args below meth c H locs cells slots Q (F0 m pc ls st0) := by
  obtain ⟨hx, hb, hown, hts⟩ := S
  have hF := va_free hD hS hA isC hJ.1
  refine va_calli (va_runS (As := As) (rest := rest) ⟨hx, hb, hml, hown, hts⟩ (hM H.size) (va_cwS n hts hG hwy hrc.1 hrc.2 hd hR) ⟨ctP_blind, ct_pre hK hP hD hJ.1 hJ.2.2.1⟩ rfl hn hls hst (lv_room hcat) hdg ⟨hcel.1, hcel.2⟩) hS (fun q _ h => hF q h) hF (fun r u t H1 locs1 ht hvm hw hB hz1 hk1 hS1 => ?_)
  obtain ⟨j1, j2⟩ := ct_back hJ hP hD hS hA ht hB hk1
  subst hw
  exact kk H1 locs1 j1 j2 hS1
theorem CtV.callS {y : MethodName} {wsy wsy0 : List Cond} {rmy : Room} {by_ : ByteArray} {maxLy nL n index : Nat} {rt : Option FieldType} {As : List Value} {Ts : List Cond} {own : String} {wc wr w1 : va_W} {isC isR ps : List Nat}
    (hM : CtV l y wsy rmy D tys As wc w1) (S : ctF p m c cc s args Ts own) (hG : GoodIn Ts (va_wsS own index y wsy)) (hwy : wsy = Cond.code y by_ maxLy rt :: wsy0)
    (hd : y.cls ≠ "java/lang/invoke/MethodHandle" ∧ y.cls ≠ "java/lang/invoke/VarHandle" ∧ (parseMethodDescriptor y.desc).map (fun d => d.parameters.length) = some n) (hR : rmy.frames + 1 ≤ R.frames ∧ 8 + (maxLy + 11) + rmy.locals ≤ R.locals) (hrc : rmy.cells = 0 ∧ rmy.slots = 0) (hml : c.maxLocals = nL) (hls : ls.size = nL)
    (hK : va_K D vwCl tys s) (hP : va_P D vwCl ws H) (hD : va_D A ws) (hS : va_S A s.heap H locs) (hA : ∀ q : Nat, s.heap.size ≤ q → A q) (hJ : ctJ ws wc wr w1 ws' isC isR ps)
    (hst : st0 = As.reverse ++ rest) (hn : As.length = n) (hcat : (rest.map fun v => v.category).sum ≤ 8) (hcel : cells ≤ R.cells ∧ slots ≤ R.slots) (hdg : decode cc pc = .ok (.invokestatic index, 3))
    (kk : ∀ (H1 : Heap) (locs1 : List Loc), va_P D vwCl ws' H1 → va_D A ws' → va_S A s.heap H1 locs1 → W p l e R s m args below meth c H1 locs1 cells slots Q (F0 m (pc + 3) ls rest)) : W p l e R s m args below meth c H locs cells slots Q (F0 m pc ls st0) := by
  obtain ⟨hx, hb, hown, hts⟩ := S
  have hF := va_free hD hS hA isC hJ.1
  refine va_callv (va_runS (As := As) (rest := rest) ⟨hx, hb, hml, hown, hts⟩ (hM H.size) (va_cwS n hts hG hwy hrc.1 hrc.2 hd hR) ⟨ctP_blind, ct_pre hK hP hD hJ.1 hJ.2.2.1⟩ rfl hn hls hst (lv_room hcat) hdg ⟨hcel.1, hcel.2⟩) hS (fun q _ h => hF q h) hF (fun u t H1 locs1 ht hvm hw hB hz1 hk1 hS1 => ?_)
  obtain ⟨j1, j2⟩ := ct_back hJ hP hD hS hA ht hB hk1
  exact kk H1 locs1 j1 j2 hS1
end CT
end
section
/-! what a state is, as values; the cells that hold it; what each method makes of it -/
abbrev CBu : Type := Nat × Nat × (Nat → Option Nat) × (Nat → Nat) × Nat × (Nat → Bool) × Int32 × Int32 × Int32 × Int32 × Int32
abbrev LAu : Type := (Nat → Nat) × (Nat → Bool) × Nat × Nat
abbrev OBu : Type := (Nat → Int32) × (Nat → Int32) × CBu × CBu × LAu
abbrev MDu : Type := (Nat → Int32) × (Nat → Int32) × (Nat → Nat) × (Nat → Nat) × (Nat → Option Nat) × (Nat → Nat) × (Nat → Nat) × (Nat → Bool) × (Nat → Int32) × Int32 × Int32 × Int32 × Int32 × (Nat → Nat) × Nat × Nat
abbrev T3 (cyI cyZ cyJ : ClassId) : List (ClassId × FieldType) := [(cyI, .int), (cyZ, .boolean), (cyJ, .long)]
abbrev CBc (cyI cyZ : ClassId) (h a1 a2 a3 : Nat) (u : CBu) : va_W := match u with
  | (sc, pl, ln, bn, n, dt, hi, sw, mi, hc, co) => [(h, .inr (0, [.int (nI sc), .int (nI pl), .ref a1, .ref a2, .int (nI n), .ref a3, .int hi, .int sw, .int mi, .int hc, .int co])), (a1, .inl (cyI, 16, .inl (fun j => oI (ln j)))), (a2, .inl (cyI, 8, .inl (fun j => nI (bn j)))), (a3, .inl (cyZ, 256, .inl (fun j => bI (dt j))))]
abbrev LAc (cyI cyZ : ClassId) (h a1 a2 : Nat) (u : LAu) : va_W := match u with
  | (ll, lw, lc, lx) => [(h, .inr (1, [.ref a1, .ref a2, .int (nI lc), .int (nI lx)])), (a1, .inl (cyI, 150, .inl (fun j => nI (ll j)))), (a2, .inl (cyZ, 150, .inl (fun j => bI (lw j))))]
abbrev OBo (cyI : ClassId) (h a1 a2 hu ht hla : Nat) (wr hm : Nat → Int32) : va_W := [(h, .inr (2, [.ref a1, .ref a2, .ref hu, .ref ht, .ref hla])), (a1, .inl (cyI, 1024, .inl wr)), (a2, .inl (cyI, 1024, .inl hm))]
abbrev MDc (cyI : ClassId) (h a1 a2 a3 a4 a5 a6 a7 a8 a9 a10 : Nat) (u : MDu) : va_W := match u with
  | (mw, mh, ms, mp, ml, mb, mm, md, mc, mhi, msw, mmi, mhc, ma, mq, mt) => [(h, .inr (3, [.ref a1, .ref a2, .ref a3, .ref a4, .ref a5, .ref a6, .ref a7, .ref a8, .ref a9, .int mhi, .int msw, .int mmi, .int mhc, .ref a10, .int (nI mq), .int (nI mt)])), (a1, .inl (cyI, 1024, .inl mw)), (a2, .inl (cyI, 1024, .inl mh)), (a3, .inl (cyI, 2, .inl (fun j => nI (ms j)))), (a4, .inl (cyI, 2, .inl (fun j => nI (mp j)))), (a5, .inl (cyI, 32, .inl (fun j => oI (ml j)))), (a6, .inl (cyI, 16, .inl (fun j => nI (mb j)))), (a7, .inl (cyI, 2, .inl (fun j => nI (mm j)))), (a8, .inl (cyI, 512, .inl (fun j => bI (md j)))), (a9, .inl (cyI, 2, .inl mc)), (a10, .inl (cyI, 150, .inl (fun j => nI (ma j))))]
/-! numbers and rows -/
def cI (b : Bool) (x : Int32) : Int32 := if b then x else 0
/-- from a up to b each takes its right neighbour's -/
def shl (f : Nat → Nat) (a b : Nat) : Nat → Nat := fun j => if a ≤ j ∧ j < b then f (j + 1) else f j
/-- from above a up to b each takes its left neighbour's -/
def shr (f : Nat → Nat) (a b : Nat) : Nat → Nat := fun j => if a < j ∧ j ≤ b then f (j - 1) else f j
/-- from a up to b all are v -/
def fil {α : Type} (f : Nat → α) (a b : Nat) (v : α) : Nat → α := fun j => if a ≤ j ∧ j < b then v else f j
/-- from a up to b as in g -/
def cpy {α : Type} (f g : Nat → α) (a b : Nat) : Nat → α := fun j => if a ≤ j ∧ j < b then g j else f j
/-- the first below n with p -/
def fnd (p : Nat → Bool) : Nat → Option Nat
  | 0 => none
  | n + 1 => match fnd p n with
    | some i => some i
    | none => if p n then some n else none
/-- how many below n with p -/
def cnt (p : Nat → Bool) : Nat → Nat
  | 0 => 0
  | n + 1 => cnt p n + (if p n then 1 else 0)
theorem fnd_none {p : Nat → Bool} : ∀ {n : Nat}, (∀ j, j < n → p j = false) → fnd p n = none
  | 0, _ => rfl
  | n + 1, h => by
    have h1 := fnd_none (p := p) (n := n) (fun j hj => h j (by omega))
    simp [fnd, h1, h n (by omega)]
theorem fnd_some {p : Nat → Bool} : ∀ {n i : Nat}, i < n → (∀ j, j < i → p j = false) → p i = true → fnd p n = some i
  | 0, i, hi, _, _ => absurd hi (Nat.not_lt_zero _)
  | n + 1, i, hi, h, hp => by
    by_cases h2 : i = n
    · subst h2
      simp [fnd, fnd_none h, hp]
    · simp [fnd, fnd_some (n := n) (by omega) h hp]
theorem fnd_of_none {p : Nat → Bool} : ∀ {n : Nat}, fnd p n = none → ∀ j, j < n → p j = false
  | 0, _, j, hj => absurd hj (Nat.not_lt_zero _)
  | n + 1, h, j, hj => by
    cases h1 : fnd p n with
    | some i => simp [fnd, h1] at h
    | none =>
      by_cases h2 : j = n
      · subst h2
        cases h3 : p j with
        | false => rfl
        | true => simp [fnd, h1, h3] at h
      · exact fnd_of_none h1 j (by omega)
theorem fnd_of_some {p : Nat → Bool} : ∀ {n i : Nat}, fnd p n = some i → i < n ∧ p i = true ∧ ∀ j, j < i → p j = false
  | 0, i, h => by simp [fnd] at h
  | n + 1, i, h => by
    cases h1 : fnd p n with
    | some k =>
      simp [fnd, h1] at h
      subst h
      obtain ⟨a, b, c⟩ := fnd_of_some h1
      exact ⟨by omega, b, c⟩
    | none =>
      cases h3 : p n with
      | false => simp [fnd, h1, h3] at h
      | true =>
        simp [fnd, h1, h3] at h
        subst h
        exact ⟨by omega, h3, fnd_of_none h1⟩
theorem cnt_le (p : Nat → Bool) : ∀ n, cnt p n ≤ n
  | 0 => Nat.le_refl _
  | n + 1 => by
    have := cnt_le p n
    unfold cnt
    split <;> omega
theorem cnt_s {p : Nat → Bool} {n : Nat} (h : p n = true) : cnt p (n + 1) = cnt p n + 1 := by simp [cnt, h]
theorem cnt_n {p : Nat → Bool} {n : Nat} (h : p n = false) : cnt p (n + 1) = cnt p n := by simp [cnt, h]
/-! the cache and its bench -/
def cb_empty (s' p' : Nat) : CBu → CBu := fun (sc, pl, ln, bn, n, dt, hi, sw, mi, hc, co) => (s', p', (fun _ => none), bn, 0, (fun _ => false), hi, sw, mi, hc, co)
def cb_bh (q : Nat) : CBu → CBu := fun (sc, pl, ln, bn, n, dt, hi, sw, mi, hc, co) => (sc, pl, ln, bn, n, ru dt q false, hi, sw, mi, hc + cI (dt q) 1, co + cI (dt q) 10)
def cb_leave (k : Nat) : CBu → CBu := fun (sc, pl, ln, bn, n, dt, hi, sw, mi, hc, co) => (sc, pl, ln, shl bn k (n - 1), n - 1, dt, hi, sw, mi, hc, co)
def cb_sit (q : Nat) : CBu → CBu := fun (sc, pl, ln, bn, n, dt, hi, sw, mi, hc, co) => (sc, pl, ln, ru bn n q, n + 1, dt, hi, sw, mi, hc, co)
def cb_seat (q : Nat) : CBu → Option Nat := fun (sc, pl, ln, bn, n, dt, hi, sw, mi, hc, co) => fnd (fun k => decide (bn k = q)) n
def cb_throw (s : Nat) : CBu → CBu := fun (sc, pl, ln, bn, n, dt, hi, sw, mi, hc, co) => match ln s with
  | none => (sc, pl, ln, bn, n, dt, hi, sw, mi, hc, co)
  | some q => if pl = 0 then cb_bh q (sc, pl, ru ln s none, bn, n, dt, hi, sw, mi, hc, co) else if pl ≤ n then cb_sit q (cb_leave 0 (cb_bh (bn 0) (sc, pl, ru ln s none, bn, n, dt, hi, sw, mi, hc, co))) else cb_sit q (sc, pl, ru ln s none, bn, n, dt, hi, sw, mi, hc, co)
def cb_put (s q : Nat) (w : Bool) : CBu → CBu := fun (sc, pl, ln, bn, n, dt, hi, sw, mi, hc, co) => (sc, pl, ru ln s (some q), bn, n, if w then ru dt q true else dt, hi, sw, mi, hc, co)
def cb_hit (q : Nat) (w : Bool) : CBu → CBu := fun (sc, pl, ln, bn, n, dt, hi, sw, mi, hc, co) => (sc, pl, ln, bn, n, if w then ru dt q true else dt, hi + 1, sw, mi, hc, co + 1)
def cb_missed : CBu → CBu := fun (sc, pl, ln, bn, n, dt, hi, sw, mi, hc, co) => (sc, pl, ln, bn, n, dt, hi, sw, mi + 1, hc, co + 20)
def cb_swapped : CBu → CBu := fun (sc, pl, ln, bn, n, dt, hi, sw, mi, hc, co) => (sc, pl, ln, bn, n, dt, hi, sw + 1, mi, hc, co + 3)
def cb_sc : CBu → Nat := fun (sc, pl, ln, bn, n, dt, hi, sw, mi, hc, co) => sc
def cb_ln : CBu → Nat → Option Nat := fun (sc, pl, ln, bn, n, dt, hi, sw, mi, hc, co) => ln
def cb_dt : CBu → Nat → Bool := fun (sc, pl, ln, bn, n, dt, hi, sw, mi, hc, co) => dt
def cb_co : CBu → Int32 := fun (sc, pl, ln, bn, n, dt, hi, sw, mi, hc, co) => co
def cb_hc : CBu → Int32 := fun (sc, pl, ln, bn, n, dt, hi, sw, mi, hc, co) => hc
def cb_acc (q : Nat) (w : Bool) (u : CBu) : CBu := if cb_ln u (q % cb_sc u) = some q then cb_hit q w u else match cb_seat q u with
  | none => cb_put (q % cb_sc u) q w (cb_throw (q % cb_sc u) (cb_missed u))
  | some k => cb_put (q % cb_sc u) q w (cb_throw (q % cb_sc u) (cb_leave k (cb_swapped u)))
def cb_bhS (i : Nat) (u : CBu) : CBu := match i with
  | 0 => u
  | i + 1 => match cb_ln u i with
    | none => cb_bhS i u
    | some q => cb_bh q (cb_bhS i u)
def cb_bhB (bn : Nat → Nat) (j : Nat) (u : CBu) : CBu := match j with
  | 0 => u
  | j + 1 => cb_bh (bn j) (cb_bhB bn j u)
def cb_bring : CBu → CBu := fun (sc, pl, ln, bn, n, dt, hi, sw, mi, hc, co) => cb_bhB bn n (cb_bhS sc (sc, pl, ln, bn, n, dt, hi, sw, mi, hc, co))
def cb_where (q : Nat) : CBu → Nat := fun (sc, pl, ln, bn, n, dt, hi, sw, mi, hc, co) => if ln (q % sc) = some q then 1 else if (fnd (fun k => decide (bn k = q)) n).isSome then 2 else 0
/-- small enough for every index -/
def cb_bd : CBu → Prop := fun (sc, pl, ln, bn, n, dt, hi, sw, mi, hc, co) => (sc = 1 ∨ sc = 2 ∨ sc = 4 ∨ sc = 8 ∨ sc = 16) ∧ pl ≤ 8 ∧ n ≤ 8 ∧ (∀ s q, ln s = some q → q < 256) ∧ ∀ k, k < n → bn k < 256

/-! the ring of the last accesses, the whole -/
def la_add (q : Nat) (w : Bool) : LAu → LAu := fun (ll, lw, lc, lx) => (ru ll lx q, ru lw lx w, if lc < 150 then lc + 1 else lc, if lx + 1 < 150 then lx + 1 else 0)
def la_slot (k : Nat) : LAu → Nat := fun (ll, lw, lc, lx) => ((if lc < 150 then 0 else lx) + k) % 150
def la_bd : LAu → Prop := fun (ll, lw, lc, lx) => lc ≤ 150 ∧ lx < 150 ∧ ∀ k, k < 150 → ll k < 256
theorem la_bd_add {la : LAu} {q : Nat} (w : Bool) (hq : q < 256) (h : la_bd la) : la_bd (la_add q w la) := by
  obtain ⟨ll, lw, lc, lx⟩ := la
  obtain ⟨h1, h2, h3⟩ := h
  refine ⟨?_, ?_, fun k hk => ?_⟩
  · show (if lc < 150 then lc + 1 else lc) ≤ 150
    split <;> omega
  · show (if lx + 1 < 150 then lx + 1 else 0) < 150
    split <;> omega
  · show ru ll lx q k < 256
    unfold ru
    split
    · exact hq
    · exact h3 k hk
/-- the k last accesses tried on a cache -/
def la_try (la : LAu) (k : Nat) (u : CBu) : CBu := match k with
  | 0 => u
  | k + 1 => cb_acc (la.1 (la_slot k la)) (la.2.1 (la_slot k la)) (la_try la k u)
def la_trial (la : LAu) (s' p' : Nat) (u : CBu) : CBu := la_try la la.2.2.1 (cb_empty s' p' u)
/-- the best number of places up to k, what it costs, the trial's cache behind -/
def la_best (la : LAu) (s' : Nat) (k : Nat) (u : CBu) : Nat × Int32 × CBu := match k with
  | 0 => (0, cb_co (la_trial la s' 0 u) - cb_co u, la_trial la s' 0 u)
  | k + 1 => match la_best la s' k u with
    | (b, c, t) => if cb_co (la_trial la s' (k + 1) t) - cb_co t < c then (k + 1, cb_co (la_trial la s' (k + 1) t) - cb_co t, la_trial la s' (k + 1) t) else (b, c, la_trial la s' (k + 1) t)
/-- how far on: the next word -/
def nxt (a : Nat) (z : Int) : Nat := (((a : Int) + z) % 1024).toNat
def adr (a : Nat) (z : Int) (k : Nat) : Nat := match k with
  | 0 => a
  | k + 1 => nxt (adr a z k) z
def ob_walk (a : Nat) (z : Int) (k : Nat) (u : CBu) (la : LAu) : CBu × LAu := match k with
  | 0 => (u, la)
  | k + 1 => (cb_acc (adr a z k / 4) false (ob_walk a z k u la).1, la_add (adr a z k / 4) false (ob_walk a z k u la).2)
theorem nxt_lt (a : Nat) (z : Int) : nxt a z < 1024 := by
  unfold nxt
  omega
theorem adr_lt {a : Nat} (z : Int) (h : a < 1024) : ∀ k, adr a z k < 1024
  | 0 => h
  | k + 1 => nxt_lt _ _
def cb_lines : CBu → Nat := fun (sc, pl, ln, bn, n, dt, hi, sw, mi, hc, co) => n + cnt (fun s => (ln s).isSome) sc
def cb_dirty : CBu → Nat := fun (sc, pl, ln, bn, n, dt, hi, sw, mi, hc, co) => cnt dt 256
end
section
/-! small laws of rows and numbers -/
theorem ru_id {α : Type} {f : Nat → α} {k : Nat} {v : α} (h : f k = v) : ru f k v = f := by
  funext j
  by_cases hj : j = k
  · subst hj; simp [ru, h]
  · simp [ru, hj]
theorem shl_0 (f : Nat → Nat) (a : Nat) : shl f a a = f := by
  funext j
  unfold shl
  rw [if_neg (by omega)]
theorem shl_s {f : Nat → Nat} {a i : Nat} (h : a ≤ i) : ru (shl f a i) i (shl f a i (i + 1)) = shl f a (i + 1) := by
  funext j
  unfold ru shl
  by_cases hj : j = i
  · subst hj
    rw [if_pos rfl, if_neg (by omega), if_pos (by omega)]
  · rw [if_neg hj]
    by_cases h2 : a ≤ j ∧ j < i
    · rw [if_pos h2, if_pos (by omega)]
    · rw [if_neg h2, if_neg (by omega)]
theorem fil_0 {α : Type} (f : Nat → α) (a : Nat) (v : α) : fil f a a v = f := by
  funext j
  unfold fil
  rw [if_neg (by omega)]
theorem fil_s {α : Type} {f : Nat → α} {a i : Nat} {v : α} (h : a ≤ i) : ru (fil f a i v) i v = fil f a (i + 1) v := by
  funext j
  unfold ru fil
  by_cases hj : j = i
  · subst hj
    rw [if_pos rfl, if_pos (by omega)]
  · rw [if_neg hj]
    by_cases h2 : a ≤ j ∧ j < i
    · rw [if_pos h2, if_pos (by omega)]
    · rw [if_neg h2, if_neg (by omega)]
theorem fil_in {α : Type} {f : Nat → α} {a b j : Nat} {v : α} (h1 : a ≤ j) (h2 : j < b) : fil f a b v j = v := by
  unfold fil
  rw [if_pos ⟨h1, h2⟩]
theorem cpy_0 {α : Type} (f g : Nat → α) (a : Nat) : cpy f g a a = f := by
  funext j
  unfold cpy
  rw [if_neg (by omega)]
theorem cpy_s {α : Type} {f g : Nat → α} {a i : Nat} (h : a ≤ i) : ru (cpy f g a i) i (g i) = cpy f g a (i + 1) := by
  funext j
  unfold ru cpy
  by_cases hj : j = i
  · subst hj
    rw [if_pos rfl, if_pos (by omega)]
  · rw [if_neg hj]
    by_cases h2 : a ≤ j ∧ j < i
    · rw [if_pos h2, if_pos (by omega)]
    · rw [if_neg h2, if_neg (by omega)]
theorem shr_0 (f : Nat → Nat) (b : Nat) : shr f b b = f := by
  funext j
  unfold shr
  rw [if_neg (by omega)]
/-- from the right: the places above i hold their left neighbours' already -/
theorem shr_s {f : Nat → Nat} {a i b : Nat} (h : a < i) (hb : i ≤ b) : ru (shr f i b) i (shr f i b (i - 1)) = shr f (i - 1) b := by
  funext j
  unfold ru shr
  by_cases hj : j = i
  · subst hj
    rw [if_pos rfl, if_neg (by omega), if_pos (by omega)]
  · rw [if_neg hj]
    by_cases h2 : i < j ∧ j ≤ b
    · rw [if_pos h2, if_pos (by omega)]
    · rw [if_neg h2, if_neg (by omega)]
theorem and_mask {q sc : Nat} (hq : q < 2 ^ 31) (hs : sc = 1 ∨ sc = 2 ∨ sc = 4 ∨ sc = 8 ∨ sc = 16) : nI q &&& nI (sc - 1) = nI (q % sc) := by
  rcases hs with rfl | rfl | rfl | rfl | rfl
  · exact pk_andN (by omega) 0 (by decide)
  · exact pk_andN (by omega) 1 (by decide)
  · exact pk_andN (by omega) 2 (by decide)
  · exact pk_andN (by omega) 3 (by decide)
  · exact pk_andN (by omega) 4 (by decide)
theorem mod16 {sc : Nat} (q : Nat) (hs : sc = 1 ∨ sc = 2 ∨ sc = 4 ∨ sc = 8 ∨ sc = 16) : q % sc < 16 := by
  rcases hs with rfl | rfl | rfl | rfl | rfl <;> omega
theorem modsc {sc : Nat} (q : Nat) (hs : sc = 1 ∨ sc = 2 ∨ sc = 4 ∨ sc = 8 ∨ sc = 16) : q % sc < sc := by
  rcases hs with rfl | rfl | rfl | rfl | rfl <;> omega
theorem oI_some (q : Nat) : oI (some q) = nI q := rfl
theorem cI_t (x : Int32) : cI true x = x := rfl
theorem cI_f (x : Int32) : cI false x = 0 := rfl
/-! what a step leaves within its bounds -/
theorem cb_bd_bh {u : CBu} (q : Nat) (h : cb_bd u) : cb_bd (cb_bh q u) := h
theorem cb_bd_leave {u : CBu} (k : Nat) (h : cb_bd u) : cb_bd (cb_leave k u) := by
  obtain ⟨sc, pl, ln, bn, n, dt, hi, sw, mi, hc, co⟩ := u
  obtain ⟨h1, h2, h3, h4, h5⟩ := h
  refine ⟨h1, h2, (by omega : n - 1 ≤ 8), h4, fun j hj => ?_⟩
  show shl bn k (n - 1) j < 256
  unfold shl
  split
  · exact h5 _ (by omega)
  · exact h5 _ (by omega)
theorem cb_bd_sit {u : CBu} {q : Nat} (hq : q < 256) (h : cb_bd u) (hn : u.2.2.2.2.1 < 8) : cb_bd (cb_sit q u) := by
  obtain ⟨sc, pl, ln, bn, n, dt, hi, sw, mi, hc, co⟩ := u
  obtain ⟨h1, h2, h3, h4, h5⟩ := h
  refine ⟨h1, h2, hn, h4, fun j hj => ?_⟩
  show ru bn n q j < 256
  unfold ru
  split
  · exact hq
  · exact h5 _ (by omega)
theorem cb_bd_none {u : CBu} (s : Nat) (h : cb_bd u) : cb_bd (u.1, u.2.1, ru u.2.2.1 s none, u.2.2.2) := by
  obtain ⟨sc, pl, ln, bn, n, dt, hi, sw, mi, hc, co⟩ := u
  obtain ⟨h1, h2, h3, h4, h5⟩ := h
  refine ⟨h1, h2, h3, fun s' q hq => ?_, h5⟩
  by_cases e : s' = s
  · subst e; exact absurd hq (by simp [ru])
  · exact h4 s' q (by simpa [ru, e] using hq)
theorem cb_bd_throw {u : CBu} (s : Nat) (h : cb_bd u) : cb_bd (cb_throw s u) := by
  obtain ⟨sc, pl, ln, bn, n, dt, hi, sw, mi, hc, co⟩ := u
  have h0 := h
  obtain ⟨h1, h2, h3, h4, h5⟩ := h0
  unfold cb_throw
  dsimp only
  cases hs : ln s with
  | none => exact h
  | some q =>
    have hq := h4 s q hs
    have hn := cb_bd_none s h
    dsimp only
    split
    · exact cb_bd_bh q hn
    · rename_i hp
      split
      · rename_i hp2
        refine cb_bd_sit hq (cb_bd_leave 0 (cb_bd_bh _ hn)) ?_
        show n - 1 < 8
        omega
      · rename_i hp2
        refine cb_bd_sit hq hn ?_
        show n < 8
        omega
theorem cb_bd_put {u : CBu} {s q : Nat} (w : Bool) (hq : q < 256) (h : cb_bd u) : cb_bd (cb_put s q w u) := by
  obtain ⟨sc, pl, ln, bn, n, dt, hi, sw, mi, hc, co⟩ := u
  obtain ⟨h1, h2, h3, h4, h5⟩ := h
  refine ⟨h1, h2, h3, fun s' r hr => ?_, h5⟩
  have hr : ru ln s (some q) s' = some r := hr
  unfold ru at hr
  split at hr
  · cases hr; exact hq
  · exact h4 s' r hr
theorem cb_bd_acc {u : CBu} {q : Nat} (w : Bool) (hq : q < 256) (h : cb_bd u) : cb_bd (cb_acc q w u) := by
  unfold cb_acc
  split
  · exact h
  · split
    · exact cb_bd_put w hq (cb_bd_throw _ (show cb_bd (cb_missed u) from h))
    · exact cb_bd_put w hq (cb_bd_throw _ (cb_bd_leave _ (show cb_bd (cb_swapped u) from h)))
theorem cb_bd_empty {u : CBu} {s' p' : Nat} (hs : s' = 1 ∨ s' = 2 ∨ s' = 4 ∨ s' = 8 ∨ s' = 16) (hp : p' ≤ 8) : cb_bd (cb_empty s' p' u) := by
  obtain ⟨sc, pl, ln, bn, n, dt, hi, sw, mi, hc, co⟩ := u
  exact ⟨hs, hp, Nat.zero_le _, fun _ _ h => by simp at h, fun k hk => absurd hk (Nat.not_lt_zero k)⟩
theorem cb_bhS_eq (i : Nat) (u : CBu) : ∃ (dt : Nat → Bool) (hc co : Int32), cb_bhS i u = (u.1, u.2.1, u.2.2.1, u.2.2.2.1, u.2.2.2.2.1, dt, u.2.2.2.2.2.2.1, u.2.2.2.2.2.2.2.1, u.2.2.2.2.2.2.2.2.1, hc, co) := by
  induction i with
  | zero => exact ⟨_, _, _, rfl⟩
  | succ i ih =>
    obtain ⟨dt, hc, co, ih⟩ := ih
    unfold cb_bhS
    split
    · exact ⟨dt, hc, co, ih⟩
    · rw [ih]; exact ⟨_, _, _, rfl⟩
theorem cb_bhB_eq (b : Nat → Nat) (i : Nat) (u : CBu) : ∃ (dt : Nat → Bool) (hc co : Int32), cb_bhB b i u = (u.1, u.2.1, u.2.2.1, u.2.2.2.1, u.2.2.2.2.1, dt, u.2.2.2.2.2.2.1, u.2.2.2.2.2.2.2.1, u.2.2.2.2.2.2.2.2.1, hc, co) := by
  induction i with
  | zero => exact ⟨_, _, _, rfl⟩
  | succ i ih =>
    obtain ⟨dt, hc, co, ih⟩ := ih
    unfold cb_bhB
    rw [ih]; exact ⟨_, _, _, rfl⟩
end
section
theorem la_slot_lt (k : Nat) (la : LAu) : la_slot k la < 150 := by
  obtain ⟨ll, lw, lc, lx⟩ := la
  exact Nat.mod_lt _ (by decide)
theorem cb_bd_try {la : LAu} {u : CBu} (hla : la_bd la) (hu : cb_bd u) : ∀ k, cb_bd (la_try la k u)
  | 0 => hu
  | k + 1 => by
    unfold la_try
    refine cb_bd_acc _ ?_ (cb_bd_try hla hu k)
    have h := la_slot_lt k la
    obtain ⟨ll, lw, lc, lx⟩ := la
    exact hla.2.2 _ h
theorem cb_bd_trial {la : LAu} {u : CBu} {s' p' : Nat} (hla : la_bd la) (hs : s' = 1 ∨ s' = 2 ∨ s' = 4 ∨ s' = 8 ∨ s' = 16) (hp : p' ≤ 8) : cb_bd (la_trial la s' p' u) := cb_bd_try hla (cb_bd_empty hs hp) _
theorem ob_walk_bd {a : Nat} {z : Int} {u : CBu} {la : LAu} (ha : a < 1024) (hu : cb_bd u) (hla : la_bd la) : ∀ k, cb_bd (ob_walk a z k u la).1 ∧ la_bd (ob_walk a z k u la).2
  | 0 => ⟨hu, hla⟩
  | k + 1 => by
    have h := adr_lt z ha k
    obtain ⟨h1, h2⟩ := ob_walk_bd (z := z) ha hu hla k
    exact ⟨cb_bd_acc _ (by omega) h1, la_bd_add _ (by omega) h2⟩
theorem cb_bd_bring {u : CBu} (hu : cb_bd u) : cb_bd (cb_bring u) := by
  obtain ⟨sc, pl, ln, bn, n, dt, hi, sw, mi, hc, co⟩ := u
  unfold cb_bring
  dsimp only
  obtain ⟨d1, h1, c1, e1⟩ := cb_bhS_eq sc (sc, pl, ln, bn, n, dt, hi, sw, mi, hc, co)
  rw [e1]
  obtain ⟨d2, h2, c2, e2⟩ := cb_bhB_eq bn n (sc, pl, ln, bn, n, d1, hi, sw, mi, h1, c1)
  dsimp only at e2 ⊢
  rw [e2]
  exact hu
theorem ofInt_toInt {z : Int} (h1 : -2147483648 ≤ z) (h2 : z < 2147483648) : (Int32.ofInt z).toInt = z := by
  rw [Int32.toInt_ofInt]
  show Int.bmod z 4294967296 = z
  exact Int.bmod_eq_of_le (by omega) (by omega)
theorem ofInt_ge {z : Int} (h1 : -64 ≤ z) (h2 : z ≤ 64) : ¬ Int32.ofInt z < -64 := by
  intro h
  have h3 := Int32.lt_iff_toInt_lt.mp h
  rw [ofInt_toInt (by omega) (by omega)] at h3
  have h4 : (-64 : Int32).toInt = -64 := by decide
  omega
theorem ofInt_le {z : Int} (h1 : -64 ≤ z) (h2 : z ≤ 64) : ¬ (64 : Int32) < Int32.ofInt z := by
  intro h
  have h3 := Int32.lt_iff_toInt_lt.mp h
  rw [ofInt_toInt (by omega) (by omega)] at h3
  have h4 : (64 : Int32).toInt = 64 := by decide
  omega
theorem nI_ofInt (n : Nat) : nI n = Int32.ofInt (n : Int) := rfl
theorem add_ofInt (a b : Int) : Int32.ofInt a + Int32.ofInt b = Int32.ofInt (a + b) := (Int32.ofInt_add a b).symm
theorem cpy_va {wr hm : Nat → Int32} {b k : Nat} {x y n : Int32} (hx : x = nI b) (hy : y = nI b) (hn : n = nI 4) (hb : b < 2 ^ 30) : va_cpy wr hm x.toNatClampNeg y.toNatClampNeg n.toNatClampNeg k = cpy hm wr b (b + 4) k := by
  subst hx; subst hy; subst hn
  rw [nI_clamp (by omega), nI_clamp (by omega)]
  unfold va_cpy cpy
  by_cases h : b ≤ k ∧ k < b + 4
  · rw [if_pos h, if_pos h]
    congr 1
    omega
  · rw [if_neg h, if_neg h]
theorem fm_pos (a : Nat) (z : Int) (h : 0 ≤ (a : Int) + z) : nI a + Int32.ofInt z = nI ((a : Int) + z).toNat := by
  rw [nI_ofInt, nI_ofInt, add_ofInt, Int.toNat_of_nonneg h]
theorem nxt_pos {a : Nat} {z : Int} (h : 0 ≤ (a : Int) + z) : ((a : Int) + z).toNat % 1024 = nxt a z := by
  unfold nxt
  omega
theorem nxt_up (a : Nat) (z : Int) (h : 0 ≤ (a : Int) + z + 1024) : ((a : Int) + z + 1024).toNat % 1024 = nxt a z := by
  unfold nxt
  omega
theorem fm_neg (a : Nat) (z : Int) (h : (a : Int) + z < 0) : nI a + Int32.ofInt z = -nI (-((a : Int) + z)).toNat := by
  rw [nI_ofInt, nI_ofInt, add_ofInt, ← Int32.ofInt_neg, Int.toNat_of_nonneg (by omega)]
  congr 1
  omega
theorem nxt_neg {a : Nat} {z : Int} (h : (a : Int) + z < 0) (h2 : -1024 ≤ (a : Int) + z) : 1024 - (-((a : Int) + z)).toNat = nxt a z := by
  unfold nxt
  omega
/-- what floorMod meets below 0: j from 1 to 64 -/
theorem fm_all : ∀ j : Fin 65, 0 < j.val → (-nI j.val) - (-nI j.val) / nI 1024 * nI 1024 = -nI j.val ∧ ((-nI j.val) ^^^ nI 1024) < 0 ∧ ¬ (-nI j.val) = 0 ∧ -nI j.val + nI 1024 = nI (1024 - j.val) := by decide +kernel
theorem fm_x {j : Nat} (h : j < 2048) : ¬ (nI j ^^^ nI 1024) < 0 := by
  have e : nI j ^^^ nI 1024 = nI (j ^^^ 1024) := by
    apply Int32.toBitVec_inj.mp
    rw [Int32.toBitVec_xor]
    show BitVec.ofNat 32 j ^^^ BitVec.ofNat 32 1024 = BitVec.ofNat 32 (j ^^^ 1024)
    exact (BitVec.ofNat_xor ..).symm
  rw [e]
  have := Nat.xor_lt_two_pow (n := 11) (x := j) (y := 1024) (by omega) (by omega)
  exact nI_pos (by omega)
theorem cb_sc16 {u : CBu} (h : cb_bd u) : u.1 ≤ 16 := by
  obtain ⟨sc, pl, ln, bn, n, dt, hi, sw, mi, hc, co⟩ := u
  obtain ⟨h1, -⟩ := h
  show sc ≤ 16
  omega
theorem cb_n8 {u : CBu} (h : cb_bd u) : u.2.2.2.2.1 ≤ 8 := by
  obtain ⟨sc, pl, ln, bn, n, dt, hi, sw, mi, hc, co⟩ := u
  exact h.2.2.1
theorem cb_ln256 {u : CBu} {k q : Nat} (h : cb_bd u) (hl : cb_ln u k = some q) : q < 256 := by
  obtain ⟨sc, pl, ln, bn, n, dt, hi, sw, mi, hc, co⟩ := u
  exact h.2.2.2.1 k q hl
/-- the same for a method whose owner has natives of its own -/
theorem CtI.ofF {l : Launch} {y : MethodName} {ws ws0 : List Cond} {rm : Room} {D : va_G} {tys : List (ClassId × FieldType)} {av : List Value} {w : va_W} {v : Int32} {w' : va_W} {cc : ByteArray} {maxL : Nat} {ret : Option FieldType} {lv0 : List (Nat × Value)}
    (hy : plainFor y = true) (hw : ws = Cond.code y cc maxL ret :: ws0) (hle : (lg_sl av).length ≤ maxL) (hlv : lv_args 0 av = lv0)
    (body : ∀ (p : Program) (e : Env) (s : State) (m : MethodId) (below : List Frame) (meth : Method) (c : Code) (A : Nat → Prop) (ls : Array Slot) (args : Array Value) (Q : State → Prop), p.tables.exec = Jvm.exec → c.code = cc → c.maxLocals = maxL → meth.sig.returnType = ret → meth.locks = false → (∀ wd ∈ ws, wd.before args s = true) → s.vm.findClass y.cls = some m.cls → va_K D vwCl tys s → va_P D vwCl w s.heap → (∀ q : Nat, s.heap.size ≤ q → A q) → va_D A w → va_S A s.heap s.heap [] → lv_has ls maxL lv0 →
      Q = MQ below (ctQi D tys v w' A) args s 0 0 A → W p l e rm s m args below meth c s.heap [] 0 0 Q (F0 m 0 ls [])) : CtI l y ws rm D tys av w v w' := by
  intro sz
  refine MetFree.of_bodySF (code := cc) (maxLocals := maxL) (ret := ret) hy ?_ ?_
  · intro args s m h hn
    obtain ⟨meth, c, h1, h2, h3, h4, h5, h6, -, -⟩ := Cond.code_spec hn (atoms_spec (ws := ws) h _ (by rw [hw]; exact List.mem_cons_self))
    exact ⟨meth, c, h1, h2, h3, h4, h5, h6⟩
  · intro p e s m args below meth c s₁ B hml hv _
    have hh0 : s₁.heap = s.heap := by rw [B.state]; rfl
    obtain ⟨rfl, hsz, hP, hK, hD0⟩ := hv
    have hts := atoms_spec (ws := ws) B.pre
    subst hsz
    have hl := lv_entry av (n := maxL) hle
    rw [hlv] at hl
    have hD : va_D (va_A w s.heap.size) w := hD0.self (sz := s.heap.size)
    have hb := body p e s m below meth c (va_A w s.heap.size) _ _ _ B.exec B.bytes hml B.returns B.notSynchronized hts (findClass_of_methodNamed B.named) hK hP (fun q h => Or.inr h) hD va_S.rf hl rfl
    rw [← lg_entry_eq] at hb
    obtain ⟨t, a1, o, b1, b2, b3⟩ := hb s₁ hh0 (Stand.of_body B)
    exact ⟨t, o, a1, b1, b2, ⟨b3.1, b3.2⟩⟩
end
section
/-! the reference: what each of its methods makes of its state; w is the world, 0 or 1 -/
def md_empties (w : Nat) : MDu → MDu := fun (mw, mh, ms, mp, ml, mb, mm, md, mc, mhi, msw, mmi, mhc, ma, mq, mt) => (mw, mh, ms, mp, fil ml (16 * w) (16 * w + 16) none, mb, ru mm w 0, fil md (256 * w) (256 * w + 256) false, mc, mhi, msw, mmi, mhc, ma, mq, mt)
def md_comes (w q : Nat) : MDu → MDu := fun (mw, mh, ms, mp, ml, mb, mm, md, mc, mhi, msw, mmi, mhc, ma, mq, mt) => (mw, (match w with | 0 => cpy mh mw (4 * q) (4 * q + 4) | _ + 1 => mh), ms, mp, ml, mb, mm, ru md (256 * w + q) false, ru mc w (mc w + 10), mhi, msw, mmi, mhc + (match w with | 0 => 1 | _ + 1 => 0), ma, mq, mt)
def md_goes (w q : Nat) : MDu → MDu := fun (mw, mh, ms, mp, ml, mb, mm, md, mc, mhi, msw, mmi, mhc, ma, mq, mt) => if md (256 * w + q) = true then md_comes w q (mw, mh, ms, mp, ml, mb, mm, md, mc, mhi, msw, mmi, mhc, ma, mq, mt) else (mw, mh, ms, mp, ml, mb, mm, md, mc, mhi, msw, mmi, mhc, ma, mq, mt)
def md_seat (w q : Nat) : MDu → Option Nat := fun (mw, mh, ms, mp, ml, mb, mm, md, mc, mhi, msw, mmi, mhc, ma, mq, mt) => fnd (fun k => decide (mb (8 * w + k) = q)) (mm w)
def md_leaves (w k : Nat) : MDu → MDu := fun (mw, mh, ms, mp, ml, mb, mm, md, mc, mhi, msw, mmi, mhc, ma, mq, mt) => (mw, mh, ms, mp, ml, shl mb (8 * w + k) (8 * w + (mm w - 1)), ru mm w (mm w - 1), md, mc, mhi, msw, mmi, mhc, ma, mq, mt)
def md_sits (w q : Nat) : MDu → MDu := fun (mw, mh, ms, mp, ml, mb, mm, md, mc, mhi, msw, mmi, mhc, ma, mq, mt) => (mw, mh, ms, mp, ml, ru (shr mb (8 * w) (8 * w + mm w)) (8 * w) q, ru mm w (mm w + 1), md, mc, mhi, msw, mmi, mhc, ma, mq, mt)
def md_last (w : Nat) : MDu → Nat := fun (mw, mh, ms, mp, ml, mb, mm, md, mc, mhi, msw, mmi, mhc, ma, mq, mt) => mb (8 * w + mm w - 1)
def md_throws (w s q : Nat) : MDu → MDu := fun (mw, mh, ms, mp, ml, mb, mm, md, mc, mhi, msw, mmi, mhc, ma, mq, mt) => if mp w = 0 then md_goes w q (mw, mh, ms, mp, ru ml (16 * w + s) none, mb, mm, md, mc, mhi, msw, mmi, mhc, ma, mq, mt) else if mm w = mp w then md_sits w q (md_goes w (mb (8 * w + mm w - 1)) (mw, mh, ms, mp, ru ml (16 * w + s) none, mb, ru mm w (mm w - 1), md, mc, mhi, msw, mmi, mhc, ma, mq, mt)) else md_sits w q (mw, mh, ms, mp, ru ml (16 * w + s) none, mb, mm, md, mc, mhi, msw, mmi, mhc, ma, mq, mt)
def md_cost (w : Nat) (x : Int32) : MDu → MDu := fun (mw, mh, ms, mp, ml, mb, mm, md, mc, mhi, msw, mmi, mhc, ma, mq, mt) => (mw, mh, ms, mp, ml, mb, mm, md, ru mc w (mc w + x), mhi, msw, mmi, mhc, ma, mq, mt)
def md_put (w s q : Nat) : MDu → MDu := fun (mw, mh, ms, mp, ml, mb, mm, md, mc, mhi, msw, mmi, mhc, ma, mq, mt) => (mw, mh, ms, mp, ru ml (16 * w + s) (some q), mb, mm, md, mc, mhi, msw, mmi, mhc, ma, mq, mt)
def md_acc (w q : Nat) : MDu → MDu := fun (mw, mh, ms, mp, ml, mb, mm, md, mc, mhi, msw, mmi, mhc, ma, mq, mt) => match ml (16 * w + q % ms w) with
  | none => (match fnd (fun k => decide (mb (8 * w + k) = q)) (mm w) with
    | none => md_put w (q % ms w) q (md_cost w 20 (mw, mh, ms, mp, ml, mb, mm, md, mc, mhi, msw, mmi, mhc, ma, mq, mt))
    | some k => md_put w (q % ms w) q (md_leaves w k (md_cost w 3 (mw, mh, ms, mp, ml, mb, mm, md, mc, mhi, msw, mmi, mhc, ma, mq, mt))))
  | some r => if r = q then md_cost w 1 (mw, mh, ms, mp, ml, mb, mm, md, mc, mhi, msw, mmi, mhc, ma, mq, mt) else (match fnd (fun k => decide (mb (8 * w + k) = q)) (mm w) with
    | none => md_put w (q % ms w) q (md_throws w (q % ms w) r (md_cost w 20 (mw, mh, ms, mp, ml, mb, mm, md, mc, mhi, msw, mmi, mhc, ma, mq, mt)))
    | some k => md_put w (q % ms w) q (md_sits w r (md_leaves w k (md_cost w 3 (mw, mh, ms, mp, ml, mb, mm, md, mc, mhi, msw, mmi, mhc, ma, mq, mt)))))
def md_what (w q : Nat) : MDu → Nat := fun (mw, mh, ms, mp, ml, mb, mm, md, mc, mhi, msw, mmi, mhc, ma, mq, mt) => if ml (16 * w + q % ms w) = some q then 0 else if (fnd (fun k => decide (mb (8 * w + k) = q)) (mm w)).isSome then 1 else 2
def md_mark (j : Nat) (b : Bool) : MDu → MDu := fun (mw, mh, ms, mp, ml, mb, mm, md, mc, mhi, msw, mmi, mhc, ma, mq, mt) => (mw, mh, ms, mp, ml, mb, mm, if b then ru md j true else md, mc, mhi, msw, mmi, mhc, ma, mq, mt)
def md_note (x : Nat) : MDu → MDu := fun (mw, mh, ms, mp, ml, mb, mm, md, mc, mhi, msw, mmi, mhc, ma, mq, mt) => if mq = 150 then (mw, mh, ms, mp, ml, mb, mm, md, mc, mhi, msw, mmi, mhc, ru (shl ma 0 149) 149 x, 150, mt) else (mw, mh, ms, mp, ml, mb, mm, md, mc, mhi, msw, mmi, mhc, ru ma mq x, mq + 1, mt)
def md_tell (v : Nat) : MDu → MDu := fun (mw, mh, ms, mp, ml, mb, mm, md, mc, mhi, msw, mmi, mhc, ma, mq, mt) => (mw, mh, ms, mp, ml, mb, mm, md, mc, mhi + (if v = 0 then 1 else 0), msw + (if v = 1 then 1 else 0), mmi + (if v = 2 then 1 else 0), mhc, ma, mq, mt)
def md_ask (q : Nat) (b : Bool) (x : MDu) : MDu := md_note (2 * q + (if b then 1 else 0)) (md_mark q b (md_tell (md_what 0 q x) (md_acc 0 q x)))
def md_thr (k : Nat) : MDu → MDu := fun (mw, mh, ms, mp, ml, mb, mm, md, mc, mhi, msw, mmi, mhc, ma, mq, mt) => (mw, mh, ms, mp, ml, mb, mm, md, mc, mhi, msw, mmi, mhc, ma, mq, k)
def md_set (a : Nat) (v : Int32) : MDu → MDu := fun (mw, mh, ms, mp, ml, mb, mm, md, mc, mhi, msw, mmi, mhc, ma, mq, mt) => (ru mw a v, mh, ms, mp, ml, mb, mm, md, mc, mhi, msw, mmi, mhc, ma, mq, mt)
def md_steps (a : Nat) (z : Int) (k : Nat) (x : MDu) : MDu := match k with
  | 0 => x
  | k + 1 => md_ask (adr a z k / 4) false (md_steps a z k x)
def md_bhs (i : Nat) (x : MDu) : MDu := match i with
  | 0 => x
  | i + 1 => md_goes 0 i (md_bhs i x)
def md_size (w s' p' : Nat) : MDu → MDu := fun (mw, mh, ms, mp, ml, mb, mm, md, mc, mhi, msw, mmi, mhc, ma, mq, mt) => (mw, mh, ru ms w s', ru mp w p', ml, mb, mm, md, mc, mhi, msw, mmi, mhc, ma, mq, mt)
def md_zero (w : Nat) : MDu → MDu := fun (mw, mh, ms, mp, ml, mb, mm, md, mc, mhi, msw, mmi, mhc, ma, mq, mt) => (mw, mh, ms, mp, ml, mb, mm, md, ru mc w 0, mhi, msw, mmi, mhc, ma, mq, mt)
def md_co : MDu → Nat → Int32 := fun (mw, mh, ms, mp, ml, mb, mm, md, mc, mhi, msw, mmi, mhc, ma, mq, mt) => mc
def md_dt : MDu → Nat → Bool := fun (mw, mh, ms, mp, ml, mb, mm, md, mc, mhi, msw, mmi, mhc, ma, mq, mt) => md
def md_ml : MDu → Nat → Option Nat := fun (mw, mh, ms, mp, ml, mb, mm, md, mc, mhi, msw, mmi, mhc, ma, mq, mt) => ml
def md_asked : MDu → Nat → Nat := fun (mw, mh, ms, mp, ml, mb, mm, md, mc, mhi, msw, mmi, mhc, ma, mq, mt) => ma
def md_many : MDu → Nat := fun (mw, mh, ms, mp, ml, mb, mm, md, mc, mhi, msw, mmi, mhc, ma, mq, mt) => mq
def md_lines : MDu → Nat := fun (mw, mh, ms, mp, ml, mb, mm, md, mc, mhi, msw, mmi, mhc, ma, mq, mt) => cnt (fun s => (ml s).isSome) (ms 0) + mm 0
def md_try (k : Nat) (x : MDu) : MDu := match k with
  | 0 => x
  | k + 1 => md_mark (256 + md_asked x k / 2) (decide (md_asked x k % 2 = 1)) (md_acc 1 (md_asked x k / 2) (md_try k x))
def md_tried (s' p' : Nat) (x : MDu) : MDu := md_try (md_many x) (md_zero 1 (md_size 1 s' p' (md_empties 1 x)))
def md_best (s' : Nat) (k : Nat) (x : MDu) : Nat × Int32 × MDu := match k with
  | 0 => (0, md_co (md_tried s' 0 x) 1, md_tried s' 0 x)
  | k + 1 => match md_best s' k x with
    | (b, y, t) => if md_co (md_tried s' (k + 1) t) 1 < y then (k + 1, md_co (md_tried s' (k + 1) t) 1, md_tried s' (k + 1) t) else (b, y, md_tried s' (k + 1) t)
def md_where (q : Nat) : MDu → Nat := fun (mw, mh, ms, mp, ml, mb, mm, md, mc, mhi, msw, mmi, mhc, ma, mq, mt) => if ml (q % ms 0) = some q then 1 else if (fnd (fun k => decide (mb (8 * 0 + k) = q)) (mm 0)).isSome then 2 else 0
/-- small enough for every index -/
def md_bd (w : Nat) : MDu → Prop := fun (mw, mh, ms, mp, ml, mb, mm, md, mc, mhi, msw, mmi, mhc, ma, mq, mt) => (ms w = 1 ∨ ms w = 2 ∨ ms w = 4 ∨ ms w = 8 ∨ ms w = 16) ∧ mp w ≤ 8 ∧ mm w ≤ mp w ∧ (∀ s q, s < 16 → ml (16 * w + s) = some q → q < 256) ∧ ∀ k, k < mm w → mb (8 * w + k) < 256
def md_abd : MDu → Prop := fun (mw, mh, ms, mp, ml, mb, mm, md, mc, mhi, msw, mmi, mhc, ma, mq, mt) => mq ≤ 150 ∧ ∀ k, k < 150 → ma k < 512
theorem md_bd_thr {x : MDu} {w : Nat} (k : Nat) (h : md_bd w x) : md_bd w (md_thr k x) := h
theorem md_abd_thr {x : MDu} (k : Nat) (h : md_abd x) : md_abd (md_thr k x) := h
theorem bI_1 {b : Bool} (h : bI b = 1) : b = true := by
  cases b
  · exact absurd h (by decide)
  · rfl
theorem nI_bI (n : Nat) (b : Bool) : nI n + bI b = nI (n + (if b then 1 else 0)) := by
  cases b
  · show nI n + nI 0 = _
    rw [nI_add]; rfl
  · show nI n + nI 1 = _
    rw [nI_add]; rfl
theorem md_bd_goes {x : MDu} {w : Nat} (q : Nat) (h : md_bd w x) : md_bd w (md_goes w q x) := by
  obtain ⟨mw, mh, ms, mp, ml, mb, mm, md, mc, mhi, msw, mmi, mhc, ma, mq, mt⟩ := x
  unfold md_goes
  dsimp only
  split
  · exact h
  · exact h
theorem md_bd_leaves {x : MDu} {w k : Nat} (h : md_bd w x) : md_bd w (md_leaves w k x) := by
  obtain ⟨mw, mh, ms, mp, ml, mb, mm, md, mc, mhi, msw, mmi, mhc, ma, mq, mt⟩ := x
  obtain ⟨h1, h2, h3, h4, h5⟩ := h
  refine ⟨h1, h2, ?_, h4, ?_⟩
  · show ru mm w (mm w - 1) w ≤ mp w
    rw [ru_s]; omega
  · intro j hj
    have hj : j < ru mm w (mm w - 1) w := hj
    rw [ru_s] at hj
    show shl mb (8 * w + k) (8 * w + (mm w - 1)) (8 * w + j) < 256
    unfold shl
    split
    · rw [Nat.add_assoc]
      exact h5 _ (by omega)
    · exact h5 _ (by omega)
theorem md_bd_sits {x : MDu} {w q : Nat} (hq : q < 256) (hm : x.2.2.2.2.2.2.1 w < x.2.2.2.1 w) (h : md_bd w x) : md_bd w (md_sits w q x) := by
  obtain ⟨mw, mh, ms, mp, ml, mb, mm, md, mc, mhi, msw, mmi, mhc, ma, mq, mt⟩ := x
  obtain ⟨h1, h2, h3, h4, h5⟩ := h
  have hm : mm w < mp w := hm
  refine ⟨h1, h2, ?_, h4, ?_⟩
  · show ru mm w (mm w + 1) w ≤ mp w
    rw [ru_s]; omega
  · intro j hj
    have hj : j < ru mm w (mm w + 1) w := hj
    rw [ru_s] at hj
    show ru (shr mb (8 * w) (8 * w + mm w)) (8 * w) q (8 * w + j) < 256
    unfold ru shr
    split
    · exact hq
    · split
      · rw [show 8 * w + j - 1 = 8 * w + (j - 1) by omega]
        exact h5 _ (by omega)
      · exact h5 _ (by omega)
theorem md_bd_none {w s : Nat} {mw : Nat → Int32} {mh : Nat → Int32} {ms : Nat → Nat} {mp : Nat → Nat} {ml : Nat → Option Nat} {mb : Nat → Nat} {mm : Nat → Nat} {md : Nat → Bool} {mc : Nat → Int32} {mhi : Int32} {msw : Int32} {mmi : Int32} {mhc : Int32} {ma : Nat → Nat} {mq : Nat} {mt : Nat} (h : md_bd w (mw, mh, ms, mp, ml, mb, mm, md, mc, mhi, msw, mmi, mhc, ma, mq, mt)) : md_bd w (mw, mh, ms, mp, ru ml (16 * w + s) none, mb, mm, md, mc, mhi, msw, mmi, mhc, ma, mq, mt) := by
  obtain ⟨h1, h2, h3, h4, h5⟩ := h
  refine ⟨h1, h2, h3, fun s' q hs hq => ?_, h5⟩
  have hq : ru ml (16 * w + s) none (16 * w + s') = some q := hq
  unfold ru at hq
  split at hq
  · cases hq
  · exact h4 s' q hs hq
theorem md_bd_dec {w : Nat} {mw : Nat → Int32} {mh : Nat → Int32} {ms : Nat → Nat} {mp : Nat → Nat} {ml : Nat → Option Nat} {mb : Nat → Nat} {mm : Nat → Nat} {md : Nat → Bool} {mc : Nat → Int32} {mhi : Int32} {msw : Int32} {mmi : Int32} {mhc : Int32} {ma : Nat → Nat} {mq : Nat} {mt : Nat} (h : md_bd w (mw, mh, ms, mp, ml, mb, mm, md, mc, mhi, msw, mmi, mhc, ma, mq, mt)) : md_bd w (mw, mh, ms, mp, ml, mb, ru mm w (mm w - 1), md, mc, mhi, msw, mmi, mhc, ma, mq, mt) := by
  obtain ⟨h1, h2, h3, h4, h5⟩ := h
  refine ⟨h1, h2, ?_, h4, ?_⟩
  · show ru mm w (mm w - 1) w ≤ mp w
    rw [ru_s]; omega
  · intro j hj
    have hj : j < ru mm w (mm w - 1) w := hj
    rw [ru_s] at hj
    exact h5 _ (by omega)
theorem md_goes_many {x : MDu} {w q : Nat} : (md_goes w q x).2.2.2.2.2.2.1 = x.2.2.2.2.2.2.1 ∧ (md_goes w q x).2.2.2.1 = x.2.2.2.1 := by
  obtain ⟨mw, mh, ms, mp, ml, mb, mm, md, mc, mhi, msw, mmi, mhc, ma, mq, mt⟩ := x
  unfold md_goes
  dsimp only
  split
  · exact ⟨rfl, rfl⟩
  · exact ⟨rfl, rfl⟩
theorem md_bd_throws {x : MDu} {w s q : Nat} (hq : q < 256) (h : md_bd w x) : md_bd w (md_throws w s q x) := by
  obtain ⟨mw, mh, ms, mp, ml, mb, mm, md, mc, mhi, msw, mmi, mhc, ma, mq, mt⟩ := x
  have h0 := h
  obtain ⟨h1, h2, h3, h4, h5⟩ := h0
  unfold md_throws
  dsimp only
  split
  · exact md_bd_goes q (md_bd_none h)
  · rename_i hp
    split
    · rename_i hm
      refine md_bd_sits hq ?_ (md_bd_goes _ (md_bd_dec (md_bd_none h)))
      rw [md_goes_many.1, md_goes_many.2]
      show ru mm w (mm w - 1) w < mp w
      rw [ru_s]; omega
    · rename_i hm
      exact md_bd_sits hq (show mm w < mp w by omega) (md_bd_none h)
theorem md_bd_put {x : MDu} {w s q : Nat} (hq : q < 256) (h : md_bd w x) : md_bd w (md_put w s q x) := by
  obtain ⟨mw, mh, ms, mp, ml, mb, mm, md, mc, mhi, msw, mmi, mhc, ma, mq, mt⟩ := x
  obtain ⟨h1, h2, h3, h4, h5⟩ := h
  refine ⟨h1, h2, h3, fun s' r hs hr => ?_, h5⟩
  have hr : ru ml (16 * w + s) (some q) (16 * w + s') = some r := hr
  unfold ru at hr
  split at hr
  · cases hr; exact hq
  · exact h4 s' r hs hr
theorem md_bd_acc {x : MDu} {w q : Nat} (hq : q < 256) (h : md_bd w x) : md_bd w (md_acc w q x) := by
  obtain ⟨mw, mh, ms, mp, ml, mb, mm, md, mc, mhi, msw, mmi, mhc, ma, mq, mt⟩ := x
  have h0 := h
  obtain ⟨h1, h2, h3, h4, h5⟩ := h0
  have hs := mod16 q h1
  unfold md_acc
  dsimp only
  split
  · split
    · exact md_bd_put hq h
    · exact md_bd_put hq (md_bd_leaves (show md_bd w (md_cost w 3 (mw, mh, ms, mp, ml, mb, mm, md, mc, mhi, msw, mmi, mhc, ma, mq, mt)) from h))
  · rename_i r hr
    have hr2 := h4 _ _ hs hr
    split
    · exact h
    · split
      · exact md_bd_put hq (md_bd_throws hr2 (show md_bd w (md_cost w 20 (mw, mh, ms, mp, ml, mb, mm, md, mc, mhi, msw, mmi, mhc, ma, mq, mt)) from h))
      · rename_i k hk
        obtain ⟨hk, -⟩ := fnd_of_some hk
        refine md_bd_put hq (md_bd_sits hr2 ?_ (md_bd_leaves (show md_bd w (md_cost w 3 (mw, mh, ms, mp, ml, mb, mm, md, mc, mhi, msw, mmi, mhc, ma, mq, mt)) from h)))
        show ru mm w (mm w - 1) w < mp w
        rw [ru_s]; omega
theorem md_bd_mark {x : MDu} {w : Nat} (j : Nat) (b : Bool) (h : md_bd w x) : md_bd w (md_mark j b x) := h
theorem md_bd_tell {x : MDu} {w : Nat} (v : Nat) (h : md_bd w x) : md_bd w (md_tell v x) := h
theorem md_bd_note {x : MDu} {w : Nat} (y : Nat) (h : md_bd w x) : md_bd w (md_note y x) := by
  obtain ⟨mw, mh, ms, mp, ml, mb, mm, md, mc, mhi, msw, mmi, mhc, ma, mq, mt⟩ := x
  obtain ⟨h1, h2, h3, h4, h5⟩ := h
  unfold md_note
  dsimp only
  split
  · exact ⟨h1, h2, h3, h4, h5⟩
  · exact ⟨h1, h2, h3, h4, h5⟩
theorem md_bd_ask {x : MDu} {q : Nat} (b : Bool) (hq : q < 256) (h : md_bd 0 x) : md_bd 0 (md_ask q b x) := md_bd_note _ (md_bd_mark _ _ (md_bd_tell _ (md_bd_acc hq h)))
/-- what an access leaves alone -/
theorem md_acc_asked {x : MDu} {w q : Nat} : md_asked (md_acc w q x) = md_asked x ∧ md_many (md_acc w q x) = md_many x := by
  obtain ⟨mw, mh, ms, mp, ml, mb, mm, md, mc, mhi, msw, mmi, mhc, ma, mq, mt⟩ := x
  have hg : ∀ (w q : Nat) (x : MDu), md_asked (md_goes w q x) = md_asked x ∧ md_many (md_goes w q x) = md_many x := by
    intro w q x
    obtain ⟨mw1, mh1, ms1, mp1, ml1, mb1, mm1, md1, mc1, mhi1, msw1, mmi1, mhc1, ma1, mq1, mt1⟩ := x
    unfold md_goes
    dsimp only
    split
    · exact ⟨rfl, rfl⟩
    · exact ⟨rfl, rfl⟩
  have hs : ∀ (w q : Nat) (x : MDu), md_asked (md_sits w q x) = md_asked x ∧ md_many (md_sits w q x) = md_many x := fun _ _ _ => ⟨rfl, rfl⟩
  have hp : ∀ (w s q : Nat) (x : MDu), md_asked (md_put w s q x) = md_asked x ∧ md_many (md_put w s q x) = md_many x := fun _ _ _ _ => ⟨rfl, rfl⟩
  unfold md_acc
  dsimp only
  split
  · split
    · exact ⟨rfl, rfl⟩
    · exact ⟨rfl, rfl⟩
  · split
    · exact ⟨rfl, rfl⟩
    · split
      · rw [(hp _ _ _ _).1, (hp _ _ _ _).2]
        unfold md_throws
        dsimp only [md_cost]
        split
        · rw [(hg _ _ _).1, (hg _ _ _).2]; exact ⟨rfl, rfl⟩
        · split
          · rw [(hs _ _ _).1, (hs _ _ _).2, (hg _ _ _).1, (hg _ _ _).2]; exact ⟨rfl, rfl⟩
          · exact ⟨rfl, rfl⟩
      · exact ⟨rfl, rfl⟩
theorem md_abd_note {x : MDu} {y : Nat} (hy : y < 512) (h : md_abd x) : md_abd (md_note y x) := by
  obtain ⟨mw, mh, ms, mp, ml, mb, mm, md, mc, mhi, msw, mmi, mhc, ma, mq, mt⟩ := x
  obtain ⟨h1, h2⟩ := h
  unfold md_note
  dsimp only
  split
  · refine ⟨Nat.le_refl _, fun k hk => ?_⟩
    show ru (shl ma 0 149) 149 y k < 512
    unfold ru shl
    split
    · exact hy
    · split
      · exact h2 _ (by omega)
      · exact h2 _ hk
  · refine ⟨by show mq + 1 ≤ 150; omega, fun k hk => ?_⟩
    show ru ma mq y k < 512
    unfold ru
    split
    · exact hy
    · exact h2 _ hk
theorem md_abd_of {x y : MDu} (h1 : md_asked y = md_asked x) (h2 : md_many y = md_many x) (h : md_abd x) : md_abd y := by
  obtain ⟨mw, mh, ms, mp, ml, mb, mm, md, mc, mhi, msw, mmi, mhc, ma, mq, mt⟩ := x
  obtain ⟨mw1, mh1, ms1, mp1, ml1, mb1, mm1, md1, mc1, mhi1, msw1, mmi1, mhc1, ma1, mq1, mt1⟩ := y
  have h1 : ma1 = ma := h1
  have h2 : mq1 = mq := h2
  subst h1; subst h2
  exact h
theorem md_abd_ask {x : MDu} {q : Nat} (b : Bool) (hq : q < 256) (h : md_abd x) : md_abd (md_ask q b x) := by
  refine md_abd_note (by split <;> omega) ?_
  obtain ⟨e1, e2⟩ := md_acc_asked (x := x) (w := 0) (q := q)
  exact md_abd_of (x := x) (by show md_asked (md_acc 0 q x) = _; exact e1) (by show md_many (md_acc 0 q x) = _; exact e2) h
theorem md_steps_bd {a : Nat} {z : Int} {x : MDu} (ha : a < 1024) (h : md_bd 0 x) (h2 : md_abd x) : ∀ k, md_bd 0 (md_steps a z k x) ∧ md_abd (md_steps a z k x)
  | 0 => ⟨h, h2⟩
  | k + 1 => by
    have h9 := adr_lt z ha k
    obtain ⟨i1, i2⟩ := md_steps_bd (z := z) ha h h2 k
    exact ⟨md_bd_ask _ (by omega) i1, md_abd_ask _ (by omega) i2⟩
theorem md_what_3 (w q : Nat) (x : MDu) : md_what w q x = 0 ∨ md_what w q x = 1 ∨ md_what w q x = 2 := by
  obtain ⟨mw, mh, ms, mp, ml, mb, mm, md, mc, mhi, msw, mmi, mhc, ma, mq, mt⟩ := x
  unfold md_what
  dsimp only
  split
  · exact Or.inl rfl
  · split
    · exact Or.inr (Or.inl rfl)
    · exact Or.inr (Or.inr rfl)
theorem md_try_asked {x : MDu} : ∀ k, md_asked (md_try k x) = md_asked x ∧ md_many (md_try k x) = md_many x
  | 0 => ⟨rfl, rfl⟩
  | k + 1 => by
    obtain ⟨e1, e2⟩ := md_try_asked (x := x) k
    obtain ⟨e3, e4⟩ := md_acc_asked (x := md_try k x) (w := 1) (q := md_asked x k / 2)
    exact ⟨by show md_asked (md_acc 1 _ _) = _; rw [e3, e1], by show md_many (md_acc 1 _ _) = _; rw [e4, e2]⟩
theorem md_bd_try {x : MDu} (h : md_bd 1 x) (ha : md_abd x) (hm : md_many x ≤ 150) : ∀ k, k ≤ md_many x → md_bd 1 (md_try k x)
  | 0, _ => h
  | k + 1, hk => by
    have hq : md_asked x k < 512 := by
      obtain ⟨mw, mh, ms, mp, ml, mb, mm, md, mc, mhi, msw, mmi, mhc, ma, mq, mt⟩ := x
      exact ha.2 k (by have hk : k + 1 ≤ mq := hk; have hm : mq ≤ 150 := hm; omega)
    exact md_bd_mark _ _ (md_bd_acc (by omega) (md_bd_try h ha hm k (by omega)))
theorem md_bd_new {x : MDu} {w s' p' : Nat} (hs : s' = 1 ∨ s' = 2 ∨ s' = 4 ∨ s' = 8 ∨ s' = 16) (hp : p' ≤ 8) : md_bd w (md_size w s' p' (md_empties w x)) := by
  obtain ⟨mw, mh, ms, mp, ml, mb, mm, md, mc, mhi, msw, mmi, mhc, ma, mq, mt⟩ := x
  refine ⟨?_, ?_, ?_, ?_, ?_⟩
  · show ru ms w s' w = 1 ∨ ru ms w s' w = 2 ∨ ru ms w s' w = 4 ∨ ru ms w s' w = 8 ∨ ru ms w s' w = 16
    rw [ru_s]; exact hs
  · show ru mp w p' w ≤ 8
    rw [ru_s]; exact hp
  · show ru mm w 0 w ≤ ru mp w p' w
    rw [ru_s, ru_s]; exact Nat.zero_le _
  · intro s q hs hq
    have hq : fil ml (16 * w) (16 * w + 16) none (16 * w + s) = some q := hq
    rw [fil_in (by omega) (by omega)] at hq
    cases hq
  · intro k hk
    have hk : k < ru mm w 0 w := hk
    rw [ru_s] at hk
    exact absurd hk (Nat.not_lt_zero _)
theorem nI_le0 {k : Nat} (h : k < 2 ^ 31) (c1 : nI k ≤ 0) : k = 0 := by
  rcases Nat.eq_zero_or_pos k with h8 | h8
  · exact h8
  · exact absurd c1 (nI_nle h8 h)
theorem nI_nle0 {k : Nat} (c1 : ¬ nI k ≤ 0) : 0 < k := by
  rcases Nat.eq_zero_or_pos k with h8 | h8
  · exact absurd (by rw [h8]; decide) c1
  · exact h8
end
section
/-! what the accesses leave alone -/
def md_same (x y : MDu) : Prop := x.1 = y.1 ∧ md_asked x = md_asked y ∧ md_many x = md_many y ∧ x.2.2.2.2.2.2.2.2.2.2.2.2.2.2.2 = y.2.2.2.2.2.2.2.2.2.2.2.2.2.2.2
theorem md_same.tr {x y z : MDu} (h : md_same x y) (h2 : md_same y z) : md_same x z := ⟨h.1.trans h2.1, h.2.1.trans h2.2.1, h.2.2.1.trans h2.2.2.1, h.2.2.2.trans h2.2.2.2⟩
theorem md_same.rf (x : MDu) : md_same x x := ⟨rfl, rfl, rfl, rfl⟩
theorem md_same_goes (w q : Nat) (x : MDu) : md_same (md_goes w q x) x := by
  obtain ⟨mw, mh, ms, mp, ml, mb, mm, md, mc, mhi, msw, mmi, mhc, ma, mq, mt⟩ := x
  unfold md_goes
  dsimp only
  split
  · exact ⟨rfl, rfl, rfl, rfl⟩
  · exact ⟨rfl, rfl, rfl, rfl⟩
theorem md_same_put (w s q : Nat) (x : MDu) : md_same (md_put w s q x) x := ⟨rfl, rfl, rfl, rfl⟩
theorem md_same_sits (w q : Nat) (x : MDu) : md_same (md_sits w q x) x := ⟨rfl, rfl, rfl, rfl⟩
theorem md_same_leaves (w k : Nat) (x : MDu) : md_same (md_leaves w k x) x := ⟨rfl, rfl, rfl, rfl⟩
theorem md_same_cost (w : Nat) (k : Int32) (x : MDu) : md_same (md_cost w k x) x := ⟨rfl, rfl, rfl, rfl⟩
theorem md_same_throws (w s q : Nat) (x : MDu) : md_same (md_throws w s q x) x := by
  obtain ⟨mw, mh, ms, mp, ml, mb, mm, md, mc, mhi, msw, mmi, mhc, ma, mq, mt⟩ := x
  unfold md_throws
  dsimp only
  split
  · exact (md_same_goes _ _ _).tr ⟨rfl, rfl, rfl, rfl⟩
  · split
    · exact (md_same_sits _ _ _).tr ((md_same_goes _ _ _).tr ⟨rfl, rfl, rfl, rfl⟩)
    · exact (md_same_sits _ _ _).tr ⟨rfl, rfl, rfl, rfl⟩
theorem md_same_acc (w q : Nat) (x : MDu) : md_same (md_acc w q x) x := by
  obtain ⟨mw, mh, ms, mp, ml, mb, mm, md, mc, mhi, msw, mmi, mhc, ma, mq, mt⟩ := x
  unfold md_acc
  dsimp only
  split
  · split
    · exact (md_same_put _ _ _ _).tr (md_same_cost _ _ _)
    · exact (md_same_put _ _ _ _).tr ((md_same_leaves _ _ _).tr (md_same_cost _ _ _))
  · split
    · exact md_same_cost _ _ _
    · split
      · exact (md_same_put _ _ _ _).tr ((md_same_throws _ _ _ _).tr (md_same_cost _ _ _))
      · exact (md_same_put _ _ _ _).tr ((md_same_sits _ _ _).tr ((md_same_leaves _ _ _).tr (md_same_cost _ _ _)))
theorem md_note_mw (y : Nat) (x : MDu) : (md_note y x).1 = x.1 ∧ (md_note y x).2.2.2.2.2.2.2.2.2.2.2.2.2.2.2 = x.2.2.2.2.2.2.2.2.2.2.2.2.2.2.2 := by
  obtain ⟨mw, mh, ms, mp, ml, mb, mm, md, mc, mhi, msw, mmi, mhc, ma, mq, mt⟩ := x
  unfold md_note
  dsimp only
  split
  · exact ⟨rfl, rfl⟩
  · exact ⟨rfl, rfl⟩
theorem md_ask_mw (q : Nat) (b : Bool) (x : MDu) : (md_ask q b x).1 = x.1 ∧ (md_ask q b x).2.2.2.2.2.2.2.2.2.2.2.2.2.2.2 = x.2.2.2.2.2.2.2.2.2.2.2.2.2.2.2 := by
  have h := md_same_acc 0 q x
  obtain ⟨e1, e2⟩ := md_note_mw (2 * q + (if b then 1 else 0)) (md_mark q b (md_tell (md_what 0 q x) (md_acc 0 q x)))
  exact ⟨e1.trans h.1, e2.trans h.2.2.2⟩
theorem md_steps_mt {a : Nat} {z : Int} {x : MDu} : ∀ k, (md_steps a z k x).2.2.2.2.2.2.2.2.2.2.2.2.2.2.2 = x.2.2.2.2.2.2.2.2.2.2.2.2.2.2.2
  | 0 => rfl
  | k + 1 => (md_ask_mw _ _ _).2.trans (md_steps_mt k)
theorem fm_up (a : Nat) (z : Int) (h : 0 ≤ (a : Int) + z + 1024) : nI a + Int32.ofInt z + 1024 = nI ((a : Int) + z + 1024).toNat := by
  rw [nI_ofInt, add_ofInt, nI_ofInt, Int.toNat_of_nonneg h]
  exact add_ofInt ((a : Int) + z) 1024
/-- sizes that fit, as the script has them -/
def okS (x y : Int32) : Prop := (x = 1 ∨ x = 2 ∨ x = 4 ∨ x = 8 ∨ x = 16) ∧ 0 ≤ y ∧ y ≤ 8
theorem md_bhs_many {x : MDu} : ∀ i, (md_bhs i x).2.2.2.2.2.2.1 = x.2.2.2.2.2.2.1 ∧ (md_bhs i x).2.2.1 = x.2.2.1 ∧ (md_bhs i x).2.2.2.2.1 = x.2.2.2.2.1
  | 0 => ⟨rfl, rfl, rfl⟩
  | i + 1 => by
    obtain ⟨e1, e2, e3⟩ := md_bhs_many (x := x) i
    unfold md_bhs
    generalize md_bhs i x = y at e1 e2 e3 ⊢
    obtain ⟨mw, mh, ms, mp, ml, mb, mm, md, mc, mhi, msw, mmi, mhc, ma, mq, mt⟩ := y
    unfold md_goes
    dsimp only
    split
    · exact ⟨e1, e2, e3⟩
    · exact ⟨e1, e2, e3⟩
theorem md_bhs_s (i : Nat) (x : MDu) : md_bhs (i + 1) x = md_goes 0 i (md_bhs i x) := rfl
def md_all (x : MDu) : MDu := md_bhs 256 x
theorem md_all_many (x : MDu) : (md_all x).2.2.2.2.2.2.1 = x.2.2.2.2.2.2.1 ∧ (md_all x).2.2.1 = x.2.2.1 ∧ (md_all x).2.2.2.2.1 = x.2.2.2.2.1 := by
  unfold md_all
  generalize (256 : Nat) = k
  exact md_bhs_many k
theorem md_bhs_dt {x : MDu} : ∀ i j, md_dt (md_bhs i x) j = if j < i then false else md_dt x j
  | 0, j => by rw [if_neg (Nat.not_lt_zero j)]; rfl
  | i + 1, j => by
    have e1 := md_bhs_dt (x := x) i
    unfold md_bhs
    generalize md_bhs i x = y at e1 ⊢
    obtain ⟨mw, mh, ms, mp, ml, mb, mm, md, mc, mhi, msw, mmi, mhc, ma, mq, mt⟩ := y
    have e1 : ∀ j, md j = if j < i then false else md_dt x j := e1
    unfold md_goes
    dsimp only
    split
    · rename_i hc
      show ru md (256 * 0 + i) false j = _
      unfold ru
      by_cases hj : j = i
      · rw [if_pos (by omega), if_pos (by omega)]
      · rw [if_neg (by omega), e1 j]
        by_cases h2 : j < i
        · rw [if_pos h2, if_pos (by omega)]
        · rw [if_neg h2, if_neg (by omega)]
    · rename_i hc
      show md j = _
      rw [e1 j]
      by_cases hj : j = i
      · subst hj
        rw [if_neg (Nat.lt_irrefl _), if_pos (by omega)]
        have h3 := e1 j
        rw [if_neg (Nat.lt_irrefl _)] at h3
        rw [← h3]
        rw [show 256 * 0 + j = j by omega] at hc
        exact Bool.eq_false_iff.mpr hc
      · by_cases h2 : j < i
        · rw [if_pos h2, if_pos (by omega)]
        · rw [if_neg h2, if_neg (by omega)]
theorem md_ask_ne {x : MDu} {q v : Nat} {b : Bool} {mw1 : Nat → Int32} {mh1 : Nat → Int32} {ms1 : Nat → Nat} {mp1 : Nat → Nat} {ml1 : Nat → Option Nat} {mb1 : Nat → Nat} {mm1 : Nat → Nat} {md1 : Nat → Bool} {mc1 : Nat → Int32} {mhi1 : Int32} {msw1 : Int32} {mmi1 : Int32} {mhc1 : Int32} {ma1 : Nat → Nat} {mq1 : Nat} {mt1 : Nat} (h : (mw1, mh1, ms1, mp1, ml1, mb1, mm1, md1, mc1, mhi1, msw1, mmi1, mhc1, ma1, mq1, mt1) = md_acc 0 q x) (hv : v = md_what 0 q x) (hn : mq1 ≠ 150) : md_ask q b x = (mw1, mh1, ms1, mp1, ml1, mb1, mm1, if b then ru md1 q true else md1, mc1, mhi1 + (if v = 0 then 1 else 0), msw1 + (if v = 1 then 1 else 0), mmi1 + (if v = 2 then 1 else 0), mhc1, ru ma1 mq1 (2 * q + (if b then 1 else 0)), mq1 + 1, mt1) := by
  unfold md_ask
  rw [← h, ← hv]
  exact if_neg hn
theorem md_ask_eq {x : MDu} {q v : Nat} {b : Bool} {mw1 : Nat → Int32} {mh1 : Nat → Int32} {ms1 : Nat → Nat} {mp1 : Nat → Nat} {ml1 : Nat → Option Nat} {mb1 : Nat → Nat} {mm1 : Nat → Nat} {md1 : Nat → Bool} {mc1 : Nat → Int32} {mhi1 : Int32} {msw1 : Int32} {mmi1 : Int32} {mhc1 : Int32} {ma1 : Nat → Nat} {mq1 : Nat} {mt1 : Nat} (h : (mw1, mh1, ms1, mp1, ml1, mb1, mm1, md1, mc1, mhi1, msw1, mmi1, mhc1, ma1, mq1, mt1) = md_acc 0 q x) (hv : v = md_what 0 q x) (hn : mq1 = 150) : md_ask q b x = (mw1, mh1, ms1, mp1, ml1, mb1, mm1, if b then ru md1 q true else md1, mc1, mhi1 + (if v = 0 then 1 else 0), msw1 + (if v = 1 then 1 else 0), mmi1 + (if v = 2 then 1 else 0), mhc1, ru (shl ma1 0 149) 149 (2 * q + (if b then 1 else 0)), 150, mt1) := by
  unfold md_ask
  rw [← h, ← hv]
  exact if_pos hn
theorem md_goes_n {x : MDu} {w q : Nat} (h : md_dt x (256 * w + q) = false) : md_goes w q x = x := by
  obtain ⟨mw, mh, ms, mp, ml, mb, mm, md, mc, mhi, msw, mmi, mhc, ma, mq, mt⟩ := x
  have h : md (256 * w + q) = false := h
  unfold md_goes
  dsimp only
  rw [if_neg (by rw [h]; exact Bool.false_ne_true)]
theorem md_goes_y {x : MDu} {w q : Nat} (h : md_dt x (256 * w + q) = true) : md_goes w q x = md_comes w q x := by
  obtain ⟨mw, mh, ms, mp, ml, mb, mm, md, mc, mhi, msw, mmi, mhc, ma, mq, mt⟩ := x
  exact if_pos h
theorem md_acc_ms (w q : Nat) (x : MDu) : (md_acc w q x).2.2.1 = x.2.2.1 := by
  have hg : ∀ (w q : Nat) (x : MDu), (md_goes w q x).2.2.1 = x.2.2.1 := by
    intro w q x
    obtain ⟨mw1, mh1, ms1, mp1, ml1, mb1, mm1, md1, mc1, mhi1, msw1, mmi1, mhc1, ma1, mq1, mt1⟩ := x
    unfold md_goes
    dsimp only
    split
    · rfl
    · rfl
  have hs : ∀ (w q : Nat) (x : MDu), (md_sits w q x).2.2.1 = x.2.2.1 := fun _ _ _ => rfl
  have hp : ∀ (w s q : Nat) (x : MDu), (md_put w s q x).2.2.1 = x.2.2.1 := fun _ _ _ _ => rfl
  obtain ⟨mw, mh, ms, mp, ml, mb, mm, md, mc, mhi, msw, mmi, mhc, ma, mq, mt⟩ := x
  unfold md_acc
  dsimp only
  split
  · split
    · rfl
    · rfl
  · split
    · rfl
    · split
      · rw [hp]
        unfold md_throws
        dsimp only [md_cost]
        split
        · rw [hg]
        · split
          · rw [hs, hg]
          · rfl
      · rfl
theorem md_try_ms {x : MDu} : ∀ k, (md_try k x).2.2.1 = x.2.2.1
  | 0 => rfl
  | k + 1 => by
    show (md_mark _ _ (md_acc 1 _ (md_try k x))).2.2.1 = _
    exact (md_acc_ms 1 _ _).trans (md_try_ms k)
theorem md_tried_ms (s' p' : Nat) (x : MDu) : (md_tried s' p' x).2.2.1 0 = x.2.2.1 0 := by
  unfold md_tried
  rw [md_try_ms]
  obtain ⟨mw, mh, ms, mp, ml, mb, mm, md, mc, mhi, msw, mmi, mhc, ma, mq, mt⟩ := x
  show ru ms 1 s' 0 = ms 0
  exact ru_n ms s' (show (0 : Nat) ≠ 1 by decide)
theorem md_tried_asked (s' p' : Nat) (x : MDu) : md_asked (md_tried s' p' x) = md_asked x ∧ md_many (md_tried s' p' x) = md_many x := md_try_asked _
theorem md_try_t {k : Nat} {x : MDu} (h : md_asked x k % 2 = 1) : md_try (k + 1) x = md_mark (256 + md_asked x k / 2) true (md_acc 1 (md_asked x k / 2) (md_try k x)) := by
  show md_mark _ (decide _) _ = _
  rw [decide_eq_true h]
theorem md_try_f {k : Nat} {x : MDu} (h : md_asked x k % 2 ≠ 1) : md_try (k + 1) x = md_acc 1 (md_asked x k / 2) (md_try k x) := by
  show md_mark _ (decide _) _ = _
  rw [decide_eq_false h]
  rfl
end
section
/-! making: arrays of a known kind; contracts of constructors and their calls -/
section MK
variable {p : Program} {l : Launch} {e : Env} {R : Room} {s : State} {m : MethodId} {args : Array Value} {below : List Frame} {meth : Method} {c : Code} {H : Heap} {locs : List Loc} {cells slots : Nat} {Q : State → Prop}
variable {cc : ByteArray} {pc : Nat} {ls : Array Slot} {rest : List Value} {D : va_G} {cl : List vw_C} {A : Nat → Prop} {a : Nat} {tys : List (ClassId × FieldType)} {ws ws' : va_W} {H0 : Heap}
theorem mq_newa (hx : p.tables.exec = Jvm.exec) (hb : c.code = cc) {atype : ArrayType} (harr : (Cond.arrayClass (newarray.typeOf atype)).before args s = true) {ty : FieldType} (hty : newarray.typeOf atype = ty) (hK : va_K D cl tys s) (hP : va_P D cl ws H) (hD : va_D A ws) (hS : va_S A H0 H locs) (hA : ∀ q, H0.size ≤ q → A q)
    (t0 : Nat) {c0 : ClassId} (ht : tys[t0]? = some (c0, ty)) (hpr : ∀ cA : ClassId, va_RA s cA ty → s.vm.findClass ("[" ++ ty.toString) = some cA)
    {n : Int32} {N' : Nat} {a0 : vp_A} (ha : ∀ cA : ClassId, vp_cell cA a0 = arrV cA N' (fun _ => defaultValue ty)) (hn : ¬ n < 0) (hN : n.toNatClampNeg = N') (hbytes : N' * componentBytes ty ≤ 536870912) (hcells : cells + 1 ≤ R.cells) (hslots : slots + N' ≤ R.slots) (hdg : decode cc pc = .ok (.newarray atype, 2))
    (kk : ∀ (q : Nat) (H1 : Heap), va_P D cl (ws ++ [(q, .inl (c0, a0))]) H1 → va_D A (ws ++ [(q, .inl (c0, a0))]) → va_S A H0 H1 locs →
      W p l e R s m args below meth c H1 locs (cells + 1) (slots + N') Q (F0 m (pc + 2) ls (.ref q :: rest))) : W p l e R s m args below meth c H locs cells slots Q (F0 m pc ls (.int n :: rest)) := by
  refine va_newa hx hb harr hty hK hP hD hS hA ha hn hN hbytes hcells hslots hdg (fun q cA H1 hK1 hP1 hD1 hS1 => ?_)
  have h1 := hpr cA (hK1.2 tys.length (cA, ty) (by simp)).2
  have h2 := hpr c0 (hK.2 t0 _ ht).2
  have h3 : cA = c0 := Option.some.inj (h1.symm.trans h2)
  subst h3
  exact kk q H1 hP1 hD1 hS1
end MK
def CtN {S : Type} (l : Launch) (y : MethodName) (ws : List Cond) (rm : Room) (D : va_G) (tys : List (ClassId × FieldType)) (av : List Value) (w : va_W) (W1 : S → va_W) (N : State → Prop) (mc ms : Nat) : Prop :=
  ∀ sz : Nat, Met l y ws rm (va_Pc av (fun U => ctP D tys w sz U ∧ N U)) (va_Qv (fun _ : S => True) (fun u => ctE D tys (W1 u) (va_A w sz)) (va_A w sz)) mc ms (va_A w sz)
theorem CtN.of {S : Type} {l : Launch} {y : MethodName} {ws ws0 : List Cond} {rm : Room} {D : va_G} {tys : List (ClassId × FieldType)} {av : List Value} {w : va_W} {W1 : S → va_W} {N : State → Prop} {mc ms : Nat} {cc : ByteArray} {maxL : Nat} {ret : Option FieldType} {lv0 : List (Nat × Value)}
    (hy : plainName y.cls = true) (hw : ws = Cond.code y cc maxL ret :: ws0) (hle : (lg_sl av).length ≤ maxL) (hlv : lv_args 0 av = lv0)
    (body : ∀ (p : Program) (e : Env) (s : State) (m : MethodId) (below : List Frame) (meth : Method) (c : Code) (A : Nat → Prop) (ls : Array Slot) (args : Array Value) (Q : State → Prop), p.tables.exec = Jvm.exec → c.code = cc → c.maxLocals = maxL → meth.sig.returnType = ret → meth.locks = false → meth.name = y.name → N s → (∀ wd ∈ ws, wd.before args s = true) → s.vm.findClass y.cls = some m.cls → va_K D vwCl tys s → va_P D vwCl w s.heap → (∀ q : Nat, s.heap.size ≤ q → A q) → va_D A w → va_S A s.heap s.heap [] → lv_has ls maxL lv0 →
      Q = MQ below (va_Qv (fun _ : S => True) (fun u => ctE D tys (W1 u) A) A) args s mc ms A → W p l e rm s m args below meth c s.heap [] 0 0 Q (F0 m 0 ls [])) : CtN l y ws rm D tys av w W1 N mc ms := by
  intro sz
  refine Met.ofW (cc := cc) (maxL := maxL) (ret := ret) hy hw ?_
  intro p e s m args below meth c s₁ B hml hv
  obtain ⟨rfl, ⟨hsz, hP, hK, hD0⟩, hN⟩ := hv
  have hts := atoms_spec (ws := ws) B.pre
  subst hsz
  have hl := lv_entry av (n := maxL) hle
  rw [hlv] at hl
  rw [lg_entry_eq]
  have hD : va_D (va_A w s.heap.size) w := hD0.self (sz := s.heap.size)
  exact body p e s m below meth c (va_A w s.heap.size) _ _ _ B.exec B.bytes hml B.returns B.notSynchronized (name_of_methodNamed B.named B.method).1 hN hts (findClass_of_methodNamed B.named) hK hP (fun q h => Or.inr h) hD va_S.rf hl rfl
section CN
variable {p : Program} {l : Launch} {e : Env} {R : Room} {s : State} {m : MethodId} {args : Array Value} {below : List Frame} {meth : Method} {c : Code} {H : Heap} {locs : List Loc} {cells slots : Nat} {Q : State → Prop}
variable {cc : ByteArray} {pc : Nat} {ls : Array Slot} {rest st0 : List Value} {D : va_G} {A : Nat → Prop} {tys : List (ClassId × FieldType)} {ws ws' w' : va_W}
theorem CtN.ret {S : Type} {W1 : S → va_W} {mc ms : Nat} (u : S) (hQ : Q = MQ below (va_Qv (fun _ : S => True) (fun u => ctE D tys (W1 u) A) A) args s mc ms A) (hx : p.tables.exec = Jvm.exec) (hb : c.code = cc) (hr : meth.sig.returnType = none) (hlk : meth.locks = false) (hK : va_K D vwCl tys s) (hP : va_P D vwCl ws H) (hD : va_D A ws) (hS : va_S A s.heap H locs) (hdg : decode cc pc = .ok (.return_, 1)) (hw : ws = W1 u) :
    W p l e R s m args below meth c H locs mc ms Q (F0 m pc ls []) := by
  subst hQ; subst hw
  exact W.vret hx hb hr (fun t ht hW => ⟨⟨u, rfl, trivial, by rw [ht]; exact hP, va_K.moved hW.alike hK, hD⟩, hS.F ht⟩) hS.2.2 hdg hlk
theorem ct_preN {wc : va_W} {av : List Value} {isC : List Nat} {N : State → Prop} (hK : va_K D vwCl tys s) (hP : va_P D vwCl ws H) (hD : va_D A ws) (hC : isC.map (fun i => ws[i]?) = wc.map some) (hn : va_nd isC = true) (hN : ∀ U : State, U.heap = H → s.WarmedH U.vm → N U) : ∀ U : State, U.heap = H → s.WarmedH U.vm → va_Pc av (fun U => ctP D tys wc H.size U ∧ N U) av.toArray U := by
  intro U hU hW
  exact ⟨rfl, (ct_pre (av := av) hK hP hD hC hn U hU hW).2, hN U hU hW⟩
theorem ctPN_blind {w : va_W} {sz : Nat} {av : List Value} {N : State → Prop} (hN : ∀ (a : Array Value) (U : State) (g : JFrame) (mk : MethodId), N U → N (U.calling g mk a)) : FrameBlind (va_Pc av (fun U => ctP D tys w sz U ∧ N U)) := fun a U g mk q => ⟨q.1, (ctP_blind (av := av) a U g mk ⟨q.1, q.2.1⟩).2, hN a U g mk q.2.2⟩
theorem CtN.callI {S : Type} {W1 : S → va_W} {N : State → Prop} {mc ms : Nat} {y : MethodName} {wsy : List Cond} {rmy : Room} {by_ : ByteArray} {maxLy nL n index b : Nat} {As : List Value} {Ts : List Cond} {own : String} {wc wr : va_W} {isC isR : List Nat}
    (hM : CtN l y wsy rmy D tys (.ref b :: As) wc W1 N mc ms) (hF0 : ctF p m c cc s args Ts own) (cw : CallB R s args own index y by_ maxLy none wsy rmy mc ms n ∧ y.name = "<init>" ∧ (Cond.instanceMethod y).before args s = true)
    (hNb : ∀ (a : Array Value) (U : State) (g : JFrame) (mk : MethodId), N U → N (U.calling g mk a)) (hN : ∀ U : State, U.heap = H → s.WarmedH U.vm → N U) (hml : c.maxLocals = nL) (hls : ls.size = nL)
    (hK : va_K D vwCl tys s) (hP : va_P D vwCl ws H) (hD : va_D A ws) (hS : va_S A s.heap H locs) (hA : ∀ q : Nat, s.heap.size ≤ q → A q) (hC : isC.map (fun i => ws[i]?) = wc.map some) (hR : isR.map (fun i => ws[i]?) = wr.map some) (hnC : va_nd isC = true) (hnR : va_nd isR = true) (hdis : (isR.all fun i => decide (i ∉ isC)) = true)
    (hst : st0 = As.reverse ++ .ref b :: rest) (hn : As.length = n) (hcat : (rest.map fun v => v.category).sum ≤ 8) (hcel : cells + mc ≤ R.cells ∧ slots + ms ≤ R.slots) (hdg : decode cc pc = .ok (.invokespecial index, 3))
    (kk : ∀ (u : S) (H1 : Heap) (locs1 : List Loc), va_P D vwCl (wr ++ W1 u) H1 → va_D A (wr ++ W1 u) → va_S A s.heap H1 locs1 → W p l e R s m args below meth c H1 locs1 (cells + mc) (slots + ms) Q (F0 m (pc + 3) ls rest)) : W p l e R s m args below meth c H locs cells slots Q (F0 m pc ls st0) := by
  obtain ⟨hx, hb, hown, hts⟩ := hF0
  have hF := va_free hD hS hA isC hC
  refine va_callv (va_runI (As := As) (rest := rest) ⟨hx, hb, hml, hown, hts⟩ (hM H.size) cw ⟨ctPN_blind hNb, ct_preN hK hP hD hC hnC hN⟩ rfl hn hls hst (lv_room hcat) hdg hcel) hS (fun q _ h => hF q h) hF (fun u t H1 locs1 ht hvm hw hB hz1 hk1 hS1 => ?_)
  obtain ⟨hP1, -, hD1⟩ := hB
  rw [ht] at hP1
  obtain ⟨j1, j2⟩ := va_join hP hD isC isR hC hR hnR (fun i hi => by have := List.all_eq_true.mp hdis i hi; exact of_decide_eq_true this) hk1 hF hP1 hD1
  exact kk u H1 locs1 j1 j2 hS1
theorem CtN.callIN {S : Type} {W1 : S → va_W} {N : State → Prop} {mc ms : Nat} {y : MethodName} {wsy : List Cond} {rmy : Room} {by_ : ByteArray} {maxLy nL n index b : Nat} {As : List Value} {Ts : List Cond} {own host : String} {wc wr : va_W} {isC isR : List Nat}
    (hM : CtN l y wsy rmy D tys (.ref b :: As) wc W1 N mc ms) (hF0 : ctF p m c cc s args Ts own) (cw : va_CN R s args own index y host by_ maxLy none wsy rmy mc ms n ∧ y.name = "<init>" ∧ (Cond.instanceMethod y).before args s = true)
    (hNb : ∀ (a : Array Value) (U : State) (g : JFrame) (mk : MethodId), N U → N (U.calling g mk a)) (hN : ∀ U : State, U.heap = H → s.WarmedH U.vm → N U) (hml : c.maxLocals = nL) (hls : ls.size = nL)
    (hK : va_K D vwCl tys s) (hP : va_P D vwCl ws H) (hD : va_D A ws) (hS : va_S A s.heap H locs) (hA : ∀ q : Nat, s.heap.size ≤ q → A q) (hC : isC.map (fun i => ws[i]?) = wc.map some) (hR : isR.map (fun i => ws[i]?) = wr.map some) (hnC : va_nd isC = true) (hnR : va_nd isR = true) (hdis : (isR.all fun i => decide (i ∉ isC)) = true)
    (hst : st0 = As.reverse ++ .ref b :: rest) (hn : As.length = n) (hcat : (rest.map fun v => v.category).sum ≤ 8) (hcel : cells + mc ≤ R.cells ∧ slots + ms ≤ R.slots) (hdg : decode cc pc = .ok (.invokespecial index, 3))
    (kk : ∀ (u : S) (H1 : Heap) (locs1 : List Loc), va_P D vwCl (wr ++ W1 u) H1 → va_D A (wr ++ W1 u) → va_S A s.heap H1 locs1 → W p l e R s m args below meth c H1 locs1 (cells + mc) (slots + ms) Q (F0 m (pc + 3) ls rest)) : W p l e R s m args below meth c H locs cells slots Q (F0 m pc ls st0) := by
  obtain ⟨hx, hb, hown, hts⟩ := hF0
  have hF := va_free hD hS hA isC hC
  refine va_callv (va_runIN (As := As) (rest := rest) ⟨hx, hb, hml, hown, hts⟩ (hM H.size) cw ⟨ctPN_blind hNb, ct_preN hK hP hD hC hnC hN⟩ rfl hn hls hst (lv_room hcat) hdg hcel) hS (fun q _ h => hF q h) hF (fun u t H1 locs1 ht hvm hw hB hz1 hk1 hS1 => ?_)
  obtain ⟨hP1, -, hD1⟩ := hB
  rw [ht] at hP1
  obtain ⟨j1, j2⟩ := va_join hP hD isC isR hC hR hnR (fun i hi => by have := List.all_eq_true.mp hdis i hi; exact of_decide_eq_true this) hk1 hF hP1 hD1
  exact kk u H1 locs1 j1 j2 hS1
end CN
def noN (_ : State) : Prop := True
def lnkN (U : State) : Prop := va_Nw (.methodLinkNest RX2 30 yX1_init RX2) U
theorem noN_b : ∀ (a : Array Value) (U : State) (g : JFrame) (mk : MethodId), noN U → noN (U.calling g mk a) := fun _ _ _ _ h => h
theorem lnkN_b : ∀ (a : Array Value) (U : State) (g : JFrame) (mk : MethodId), lnkN U → lnkN (U.calling g mk a) := fun a U g mk h => va_Nw.same rfl (u := U) rfl h
end
section
/-! calls that end by a throw: the world is as before, one cell of six slots is new -/
abbrev xIO : String := "java/lang/IndexOutOfBoundsException"
abbrev xIA : String := "java/lang/IllegalArgumentException"
abbrev xIS : String := "java/lang/IllegalStateException"
abbrev xNm : List String := ["java/lang/RuntimeException", "java/lang/Exception"]
def xTexts : List (Nat × String) := [(56, "no such walk"), (92, "the set is empty"), (109, "no line of that age on the bench"), (161, "no such word"), (163, "no such line"), (165, "no such set"), (167, "no such size")]
abbrev xD : List Cond := [.declares (Bundle.initS "java/lang/RuntimeException"), .declares (Bundle.initS "java/lang/Exception"), .declares (Bundle.initS Bundle.tN)]
theorem bad_IO : ∀ w ∈ (vx_atS RX2 111 xIO xNm).filter (fun w => !goodWord w), w ∈ Cond.castable xIO xIO :: xD := by decide +kernel
theorem bad_IA : ∀ w ∈ (vx_atS RX2 58 xIA xNm).filter (fun w => !goodWord w), w ∈ Cond.castable xIA xIA :: xD := by decide +kernel
theorem bad_IS : ∀ w ∈ (vx_atS RX2 94 xIS xNm).filter (fun w => !goodWord w), w ∈ Cond.castable xIS xIS :: xD := by decide +kernel
/-- what a throw needs of the heap and the tables -/
def TX (A : Nat → Prop) (U : State) : Prop := vx_Zq Bundle.tN "UNASSIGNED_STACK" Bundle.steD A U U.heap ∧ vx_Zq Bundle.tN "SUPPRESSED_SENTINEL" Bundle.listD A U U.heap ∧ (∀ q ∈ xTexts, ∃ a : Nat, vk_R RX2 q.1 q.2 a U) ∧ va_Nw (.castable xIO xIO) U ∧ va_Nw (.castable xIA xIA) U ∧ va_Nw (.castable xIS xIS) U ∧ va_Nw (.declares (Bundle.initS "java/lang/RuntimeException")) U ∧ va_Nw (.declares (Bundle.initS "java/lang/Exception")) U ∧ va_Nw (.declares (Bundle.initS Bundle.tN)) U
theorem TX.goes {A B : Nat → Prop} {s U : State} {H : Heap} {locs : List Loc} (h : TX A s) (hS : va_S A s.heap H locs) (hAB : ∀ q, B q → A q) (hU : U.heap = H) (hW : s.WarmedH U.vm) : TX B U := by
  obtain ⟨h1, h2, h3, h4, h5, h6, h7, h8, h9⟩ := h
  refine ⟨?_, ?_, fun q hq => ?_, va_Nw.warmC hW h4, va_Nw.warmC hW h5, va_Nw.warmC hW h6, va_Nw.warmD hW h7, va_Nw.warmD hW h8, va_Nw.warmD hW h9⟩
  · rw [hU]; exact (vx_Zq.moved hW.alike (h1.kept hS.2.1)).narrow hAB
  · rw [hU]; exact (vx_Zq.moved hW.alike (h2.kept hS.2.1)).narrow hAB
  · obtain ⟨a, ha⟩ := h3 q hq
    exact ⟨a, vk_R.warm hW ha⟩
theorem TX.blind {A : Nat → Prop} : ∀ (a : Array Value) (U : State) (g : JFrame) (mk : MethodId), TX A U → TX A (U.calling g mk a) := by
  intro a U g mk h
  obtain ⟨h1, h2, h3, h4, h5, h6, h7, h8, h9⟩ := h
  refine ⟨vx_Zq.moved (u := U) (Vm.Alike.refl U.vm) h1, vx_Zq.moved (u := U) (Vm.Alike.refl U.vm) h2, fun q hq => ?_, va_Nw.same rfl (u := U) rfl h4, va_Nw.same rfl (u := U) rfl h5, va_Nw.same rfl (u := U) rfl h6, va_Nw.same rfl (u := U) rfl h7, va_Nw.same rfl (u := U) rfl h8, va_Nw.same rfl (u := U) rfl h9⟩
  obtain ⟨a0, ha⟩ := h3 q hq
  exact ⟨a0, vk_R.same (u := U) rfl ha⟩
abbrev xXC (D : va_G) (tys : List (ClassId × FieldType)) (w : va_W) (E : String) (A : Nat → Prop) : String → State → State → Prop := fun E' st t => E' = E ∧ ctE D tys w A t ∧ va_F A st t
abbrev xNo : Array Value → State → Outcome → State → Prop := fun _ _ _ _ => False
def CtX (l : Launch) (y : MethodName) (ws : List Cond) (rm : Room) (D : va_G) (tys : List (ClassId × FieldType)) (av : List Value) (w : va_W) (E : String) : Prop :=
  ∀ sz : Nat, vx_Met l y ws rm (va_Pc av (fun U => ctP D tys w sz U ∧ TX (va_A w sz) U)) xNo (xXC D tys w E (va_A w sz)) 1 6 (va_A w sz)
theorem CtX.of {l : Launch} {y : MethodName} {ws ws0 : List Cond} {rm : Room} {D : va_G} {tys : List (ClassId × FieldType)} {av : List Value} {w : va_W} {E : String} {cc : ByteArray} {maxL : Nat} {ret : Option FieldType} {lv0 : List (Nat × Value)}
    (hy : plainName y.cls = true) (hw : ws = Cond.code y cc maxL ret :: ws0) (hle : (lg_sl av).length ≤ maxL) (hlv : lv_args 0 av = lv0)
    (body : ∀ (p : Program) (e : Env) (s : State) (m : MethodId) (below : List Frame) (meth : Method) (c : Code) (A : Nat → Prop) (ls : Array Slot) (args : Array Value) (Q : State → Prop), p.tables.exec = Jvm.exec → c.code = cc → c.maxLocals = maxL → meth.locks = false → (∀ x ∈ c.exceptionTable.toList, False) → TX A s → (∀ wd ∈ ws, wd.before args s = true) → s.vm.findClass y.cls = some m.cls → va_K D vwCl tys s → va_P D vwCl w s.heap → (∀ q : Nat, s.heap.size ≤ q → A q) → va_D A w → va_S A s.heap s.heap [] → lv_has ls maxL lv0 →
      Q = vx_MQ below xNo (xXC D tys w E A) args s 1 6 A → W p l e rm s m args below meth c s.heap [] 0 0 Q (F0 m 0 ls [])) : CtX l y ws rm D tys av w E := by
  intro sz
  refine vx_ofW (cc := cc) (maxL := maxL) (ret := ret) hy hw ?_
  intro p e s m args below meth c s₁ B hml hxt hv
  obtain ⟨rfl, ⟨hsz, hP, hK, hD0⟩, hT⟩ := hv
  have hts := atoms_spec (ws := ws) B.pre
  subst hsz
  have hl := lv_entry av (n := maxL) hle
  rw [hlv] at hl
  rw [lg_entry_eq]
  have hD : va_D (va_A w s.heap.size) w := hD0.self (sz := s.heap.size)
  exact body p e s m below meth c (va_A w s.heap.size) _ _ _ B.exec B.bytes hml B.notSynchronized hxt hT hts (findClass_of_methodNamed B.named) hK hP (fun q h => Or.inr h) hD va_S.rf hl rfl
section CX
variable {p : Program} {l : Launch} {e : Env} {R : Room} {s : State} {m : MethodId} {args : Array Value} {below : List Frame} {meth : Method} {c : Code} {H : Heap} {locs : List Loc} {cells slots : Nat} {Q : State → Prop}
variable {cc : ByteArray} {pc : Nat} {ls : Array Slot} {rest st0 : List Value} {D : va_G} {A : Nat → Prop} {tys : List (ClassId × FieldType)} {ws ws' w' : va_W}
/-- the throw itself -/
theorem CtX.throwS {E : String} {ik is ic nL : Nat} {Ts : List Cond} {text : String} (hst : l.stackTraces = false) (hQ : Q = vx_MQ below xNo (xXC D tys ws E A) args s 1 6 A) (hx : p.tables.exec = Jvm.exec) (hb : c.code = cc) (hlk : meth.locks = false) (hxt : ∀ x ∈ c.exceptionTable.toList, False) (hT : TX A s) (hts : ∀ wd ∈ Ts, wd.before args s = true) (hown : s.vm.findClass RX2 = some m.cls) (hml : c.maxLocals = nL) (hls : ls.size = nL)
    (hK : va_K D vwCl tys s) (hP : va_P D vwCl ws H) (hD : va_D A ws) (hS : va_S A s.heap H locs)
    (hfit : Bundle.fit E = true ∧ ∀ n ∈ xNm, Bundle.fit n = true) (hk : Cond.classLink RX2 ik E ∈ Ts ∧ Cond.initialized E ∈ Ts) (hg : ∀ w ∈ (vx_atS RX2 ic E xNm).filter goodWord, w ∈ Ts) (hbad : ∀ w ∈ (vx_atS RX2 ic E xNm).filter (fun w => !goodWord w), w ∈ Cond.castable E E :: xD) (hcast : va_Nw (.castable E E) s) (hot : ∀ w ∈ Cond.classLink RX2 ik E :: Cond.initialized E :: vx_atS RX2 ic E xNm, vx_ot w = true) (htx : (is, text) ∈ xTexts)
    (d0 : decode cc pc = .ok (.new ik, 3)) (d3 : decode cc (pc + 3) = .ok (.dup, 1)) (d4 : decode cc (pc + 4) = .ok (.ldc is, 2)) (d6 : decode cc (pc + 6) = .ok (.invokespecial ic, 3)) (d9 : decode cc (pc + 9) = .ok (.athrow, 1))
    (hRf : 5 < R.frames) (hRl : (rest.map fun v => v.category).sum + 82 ≤ R.locals) (hRc : 1 ≤ R.cells ∧ 6 ≤ R.slots) : W p l e R s m args below meth c H locs 0 0 Q (F0 m pc ls rest) := by
  subst hQ
  obtain ⟨hU, hN, htxs, -, -, -, d7, d8, d9'⟩ := hT
  obtain ⟨sa, hstr⟩ := htxs _ htx
  refine vx_throwS (own := RX2) (cls := E) (names := xNm) (ik := ik) (is := is) (ic := ic) (sa := sa) (A := A) hx hb hst hown hfit.1 hfit.2 (hts _ hk.1) (hts _ hk.2) hstr (vx_hat (fun w hw => hts w (hg w hw)) hbad (vx_c (va_Nw.use rfl hcast) (vx_c (va_Nw.use rfl d7) (vx_c (va_Nw.use rfl d8) (vx_c (va_Nw.use rfl d9') vx_n))))) hot hU hN hS (hls.trans hml.symm) d0 d3 d4 d6 d9 (fun x h => (hxt x h).elim) hRf hRl (by omega) (by omega) hlk (fun t hvm hz hk1 => ⟨rfl, ⟨hP.kept (fun k q hq => hk1 q.1 ((hP k q hq).lt)), va_K.moved hvm hK, hD⟩, ?_⟩) hS.2.2 (Nat.le_refl _) (Nat.le_refl _)
  exact ⟨Nat.le_trans hS.1 hz, fun q h1 h2 => (hk1 q (Nat.lt_of_lt_of_le h1 hS.1)).trans (hS.2.1 q h1 h2)⟩
theorem ct_preX {wc : va_W} {av : List Value} {isC : List Nat} (hT : TX A s) (hS : va_S A s.heap H locs) (hA : ∀ q : Nat, s.heap.size ≤ q → A q) (hK : va_K D vwCl tys s) (hP : va_P D vwCl ws H) (hD : va_D A ws) (hC : isC.map (fun i => ws[i]?) = wc.map some) (hn : va_nd isC = true) : ∀ U : State, U.heap = H → s.WarmedH U.vm → va_Pc av (fun U => ctP D tys wc H.size U ∧ TX (va_A wc H.size) U) av.toArray U :=
  ct_preN hK hP hD hC hn (fun U hU hW => hT.goes hS (va_free hD hS hA isC hC) hU hW)
/-- a callee throws, and nobody here takes it -/
theorem ct_passX {E : String} {wc wr : va_W} {isC isR ps : List Nat} (hQ : Q = vx_MQ below xNo (xXC D tys ws' E A) args s 1 6 A) (hlk : meth.locks = false) (hxt : ∀ x ∈ c.exceptionTable.toList, False) (hK : va_K D vwCl tys s) (hP : va_P D vwCl ws H) (hD : va_D A ws) (hS : va_S A s.heap H locs) (hA : ∀ q : Nat, s.heap.size ≤ q → A q) (hJ : ctJ ws wc wr wc ws' isC isR ps)
    (hr : vx_Run p l e R s m args below meth c H locs 0 0 1 6 (F0 m pc ls st0) rest (fun _ _ _ => False) (xXC D tys wc E (va_A wc H.size)) (va_A wc H.size)) : W p l e R s m args below meth c H locs 0 0 Q (F0 m pc ls st0) := by
  subst hQ
  intro T hT X
  rcases hr T hT X with ⟨v, st₀, t, T', L, h0, X', hL, e1, e2, hq, st⟩ | ⟨q, st₀, t, T', L, E', ce, h0, X', hL, e1, e2, ⟨rfl, hB, hF⟩, hce, hcv, hcl, st⟩
  · exact hq.elim
  · have hfr := va_free hD hS hA isC hJ.1
    obtain ⟨k1, k2, k3⟩ := vx_keep h0 e1 hS (fun q _ h => hfr q h) hfr hL hF
    obtain ⟨j1, j2⟩ := ct_back hJ hP hD hS hA e1.symm hB k2
    have hal : s.vm.Alike T'.vm := X'.warmed.alike
    obtain ⟨t2, a1, b1⟩ := vx_out (p := p) (l := l) (e := e) (R := R) (ls := ls) (rest := rest) (Qc := xNo) (XC := xXC D tys ws' E' A) (mc := 1) (ms := 6) (free := A) (pc := pc) (fun x h => (hxt x h).elim) hlk (show T'.heap[q]? = some ce by rw [e1]; exact hce) hcv hcl (fun t9 ht9 hvm9 => ⟨rfl, ⟨by rw [ht9]; exact j1, va_K.moved hvm9 hK, j2⟩, k3.F ht9⟩) k3.2.2 (Nat.le_refl _) (Nat.le_refl _) T' rfl X'
    exact ⟨t2, st.trans a1, b1⟩
theorem CtX.passV {y : MethodName} {wsy wsy0 : List Cond} {rmy : Room} {by_ : ByteArray} {maxLy nL n index : Nat} {rt : Option FieldType} {b ci q0 : Nat} {fs : List Value} {As : List Value} {Ts : List Cond} {own C : String} {qc : vw_C} {wc wr : va_W} {isC isR ps : List Nat} {E : String}
    (hM : CtX l y wsy rmy D tys (.ref b :: As) wc E) (hF0 : ctF p m c cc s args Ts own) (hG : GoodIn Ts (wsV own index C y wsy)) (hwy : wsy = Cond.code y by_ maxLy rt :: wsy0)
    (hd : y.cls = C ∧ y.cls ≠ "java/lang/invoke/MethodHandle" ∧ y.cls ≠ "java/lang/invoke/VarHandle" ∧ (parseMethodDescriptor y.desc).map (fun d => d.parameters.length) = some n) (hR : rmy.frames + 1 ≤ R.frames ∧ 8 + (maxLy + 11) + rmy.locals ≤ R.locals) (hrc : rmy.cells = 1 ∧ rmy.slots = 6) (hml : c.maxLocals = nL) (hls : ls.size = nL)
    (hQ : Q = vx_MQ below xNo (xXC D tys ws' E A) args s 1 6 A) (hlk : meth.locks = false) (hxt : ∀ x ∈ c.exceptionTable.toList, False) (hT : TX A s)
    (hK : va_K D vwCl tys s) (hP : va_P D vwCl ws H) (hD : va_D A ws) (hS : va_S A s.heap H locs) (hA : ∀ q : Nat, s.heap.size ≤ q → A q) (hJ : ctJ ws wc wr wc ws' isC isR ps) (hrv : wc[q0]? = some (b, .inr (ci, fs))) (hcl : vwCl[ci]? = some qc ∧ qc.1 = C)
    (hst : st0 = As.reverse ++ .ref b :: rest) (hn : As.length = n) (hcat : (rest.map fun v => v.category).sum ≤ 8) (hcel : 1 ≤ R.cells ∧ 6 ≤ R.slots) (hdg : decode cc pc = .ok (.invokevirtual index, 3)) : W p l e R s m args below meth c H locs 0 0 Q (F0 m pc ls st0) := by
  obtain ⟨hx, hb, hown, hts⟩ := hF0
  have hPc := hP.sub isC (ct_fm hJ.1)
  have hrec := va_recv hK hPc hcl.1 hrv
  rw [hcl.2] at hrec
  exact ct_passX (rest := rest) hQ hlk hxt hK hP hD hS hA hJ (vx_runV (As := As) (rest := rest) ⟨hx, hb, hml, hown, hts⟩ (hM H.size) (cwV n hts hG hwy hrc.1 hrc.2 hd hR) ⟨ctPN_blind TX.blind, hrec, ct_preX hT hS hA hK hP hD hJ.1 hJ.2.2.1⟩ rfl hn hls hst (lv_room hcat) hdg ⟨by omega, by omega⟩)
theorem CtX.passS {y : MethodName} {wsy wsy0 : List Cond} {rmy : Room} {by_ : ByteArray} {maxLy nL n index : Nat} {rt : Option FieldType} {As : List Value} {Ts : List Cond} {own : String} {wc wr : va_W} {isC isR ps : List Nat} {E : String}
    (hM : CtX l y wsy rmy D tys As wc E) (hF0 : ctF p m c cc s args Ts own) (hG : GoodIn Ts (va_wsS own index y wsy)) (hwy : wsy = Cond.code y by_ maxLy rt :: wsy0)
    (hd : y.cls ≠ "java/lang/invoke/MethodHandle" ∧ y.cls ≠ "java/lang/invoke/VarHandle" ∧ (parseMethodDescriptor y.desc).map (fun d => d.parameters.length) = some n) (hR : rmy.frames + 1 ≤ R.frames ∧ 8 + (maxLy + 11) + rmy.locals ≤ R.locals) (hrc : rmy.cells = 1 ∧ rmy.slots = 6) (hml : c.maxLocals = nL) (hls : ls.size = nL)
    (hQ : Q = vx_MQ below xNo (xXC D tys ws' E A) args s 1 6 A) (hlk : meth.locks = false) (hxt : ∀ x ∈ c.exceptionTable.toList, False) (hT : TX A s)
    (hK : va_K D vwCl tys s) (hP : va_P D vwCl ws H) (hD : va_D A ws) (hS : va_S A s.heap H locs) (hA : ∀ q : Nat, s.heap.size ≤ q → A q) (hJ : ctJ ws wc wr wc ws' isC isR ps)
    (hst : st0 = As.reverse ++ rest) (hn : As.length = n) (hcat : (rest.map fun v => v.category).sum ≤ 8) (hcel : 1 ≤ R.cells ∧ 6 ≤ R.slots) (hdg : decode cc pc = .ok (.invokestatic index, 3)) : W p l e R s m args below meth c H locs 0 0 Q (F0 m pc ls st0) := by
  obtain ⟨hx, hb, hown, hts⟩ := hF0
  exact ct_passX (rest := rest) hQ hlk hxt hK hP hD hS hA hJ (vx_runS (As := As) (rest := rest) ⟨hx, hb, hml, hown, hts⟩ (hM H.size) (va_cwS n hts hG hwy hrc.1 hrc.2 hd hR) ⟨ctPN_blind TX.blind, ct_preX hT hS hA hK hP hD hJ.1 hJ.2.2.1⟩ rfl hn hls hst (lv_room hcat) hdg ⟨by omega, by omega⟩)
end CX
theorem fit_IO : Bundle.fit xIO = true ∧ ∀ n ∈ xNm, Bundle.fit n = true := by decide +kernel
theorem fit_IA : Bundle.fit xIA = true ∧ ∀ n ∈ xNm, Bundle.fit n = true := by decide +kernel
theorem fit_IS : Bundle.fit xIS = true ∧ ∀ n ∈ xNm, Bundle.fit n = true := by decide +kernel
theorem ot_IO : ∀ w ∈ Cond.classLink RX2 107 xIO :: Cond.initialized xIO :: vx_atS RX2 111 xIO xNm, vx_ot w = true := by decide +kernel
theorem ot_IA : ∀ w ∈ Cond.classLink RX2 54 xIA :: Cond.initialized xIA :: vx_atS RX2 58 xIA xNm, vx_ot w = true := by decide +kernel
theorem ot_IS : ∀ w ∈ Cond.classLink RX2 90 xIS :: Cond.initialized xIS :: vx_atS RX2 94 xIS xNm, vx_ot w = true := by decide +kernel
end
section
/-! the law's own small methods: they call the system and take what it throws -/
def TXL (A : Nat → Prop) (U : State) : Prop := TX A U ∧ va_Nc xIA xIO U ∧ va_Nc xIS xIO U
theorem TXL.goes {A B : Nat → Prop} {s U : State} {H : Heap} {locs : List Loc} (h : TXL A s) (hS : va_S A s.heap H locs) (hAB : ∀ q, B q → A q) (hU : U.heap = H) (hW : s.WarmedH U.vm) : TXL B U := ⟨h.1.goes hS hAB hU hW, va_Nc.moved hW.alike h.2.1, va_Nc.moved hW.alike h.2.2⟩
theorem TXL.blind {A : Nat → Prop} : ∀ (a : Array Value) (U : State) (g : JFrame) (mk : MethodId), TXL A U → TXL A (U.calling g mk a) := fun a U g mk h => ⟨TX.blind a U g mk h.1, va_Nc.moved (u := U) (Vm.Alike.refl U.vm) h.2.1, va_Nc.moved (u := U) (Vm.Alike.refl U.vm) h.2.2⟩
abbrev xNx : String → State → State → Prop := fun _ _ _ => False
def CtL (l : Launch) (y : MethodName) (ws : List Cond) (rm : Room) (D : va_G) (tys : List (ClassId × FieldType)) (av : List Value) (w : va_W) (v : Int32) (w' : va_W) : Prop :=
  ∀ sz : Nat, vx_Met l y ws rm (va_Pc av (fun U => ctP D tys w sz U ∧ TXL (va_A w sz) U)) (ctQi D tys v w' (va_A w sz)) xNx 1 6 (va_A w sz)
theorem CtL.of {l : Launch} {y : MethodName} {ws ws0 : List Cond} {rm : Room} {D : va_G} {tys : List (ClassId × FieldType)} {av : List Value} {w w' : va_W} {v : Int32} {cc : ByteArray} {maxL : Nat} {ret : Option FieldType} {hh : List (Nat × Nat × Nat × Nat)} {lv0 : List (Nat × Value)}
    (hy : plainName y.cls = true) (hw : ws = Cond.codeWith y cc maxL ret hh :: ws0) (hle : (lg_sl av).length ≤ maxL) (hlv : lv_args 0 av = lv0)
    (body : ∀ (p : Program) (e : Env) (s : State) (m : MethodId) (below : List Frame) (meth : Method) (c : Code) (A : Nat → Prop) (ls : Array Slot) (args : Array Value) (Q : State → Prop), p.tables.exec = Jvm.exec → c.code = cc → c.maxLocals = maxL → meth.sig.returnType = ret → meth.locks = false → c.exceptionTable.toList = tableOf hh → TXL A s → (∀ wd ∈ ws, wd.before args s = true) → s.vm.findClass y.cls = some m.cls → va_K D vwCl tys s → va_P D vwCl w s.heap → (∀ q : Nat, s.heap.size ≤ q → A q) → va_D A w → va_S A s.heap s.heap [] → lv_has ls maxL lv0 →
      Q = vx_MQ below (ctQi D tys v w' A) xNx args s 1 6 A → W p l e rm s m args below meth c s.heap [] 0 0 Q (F0 m 0 ls [])) : CtL l y ws rm D tys av w v w' := by
  intro sz
  refine vx_ofWH (cc := cc) (maxL := maxL) (ret := ret) (hh := hh) hy hw ?_
  intro p e s m args below meth c s₁ B hml hv
  obtain ⟨rfl, ⟨hsz, hP, hK, hD0⟩, hT⟩ := hv
  have hts := atoms_spec (ws := ws) B.pre
  have hxt := vx_table (x := y) B (hts _ (by rw [hw]; exact List.mem_cons_self))
  subst hsz
  have hl := lv_entry av (n := maxL) hle
  rw [hlv] at hl
  rw [lg_entry_eq]
  have hD : va_D (va_A w s.heap.size) w := hD0.self (sz := s.heap.size)
  exact body p e s m below meth c (va_A w s.heap.size) _ _ _ B.exec B.bytes hml B.returns B.notSynchronized hxt hT hts (findClass_of_methodNamed B.named) hK hP (fun q h => Or.inr h) hD va_S.rf hl rfl
section CL
variable {p : Program} {l : Launch} {e : Env} {R : Room} {s : State} {m : MethodId} {args : Array Value} {below : List Frame} {meth : Method} {c : Code} {H : Heap} {locs : List Loc} {cells slots : Nat} {Q : State → Prop}
variable {cc : ByteArray} {pc : Nat} {ls : Array Slot} {rest st0 : List Value} {D : va_G} {A : Nat → Prop} {tys : List (ClassId × FieldType)} {ws ws' w' : va_W}
theorem CtL.ret {v r : Int32} (hQ : Q = vx_MQ below (ctQi D tys v w' A) xNx args s 1 6 A) (hx : p.tables.exec = Jvm.exec) (hb : c.code = cc) (hr : meth.sig.returnType = some .int) (hlk : meth.locks = false) (hK : va_K D vwCl tys s) (hP : va_P D vwCl ws H) (hD : va_D A ws) (hS : va_S A s.heap H locs) (hc : cells ≤ 1 ∧ slots ≤ 6) (hdg : decode cc pc = .ok (.ireturn, 1)) (hv : r = v) (hw : ws = w') :
    W p l e R s m args below meth c H locs cells slots Q (F0 m pc ls [.int r]) := by
  subst hQ; subst hw; subst hv
  refine vx_ret (W.widen hc.1 hc.2 ?_)
  exact W.iret hx hb hr (fun t ht hW => ⟨⟨r, (), rfl, rfl, by rw [ht]; exact hP, va_K.moved hW.alike hK, hD⟩, hS.F ht⟩) hS.2.2 hdg hlk
theorem mq_last {q0 a : Nat} {f : Nat → Int64} {x : Int64} {cA : ClassId} {n k : Nat} {D : va_G} {cl : List vw_C} {A : Nat → Prop} {tys : List (ClassId × FieldType)} {ws ws' : va_W} {H0 : Heap} (hx : p.tables.exec = Jvm.exec) (hb : c.code = cc) (hK : va_K D cl tys s) (hP : va_P D cl ws H) (hD : va_D A ws) (hS : va_S A H0 H locs) (t0 : Nat) (ha : ws[q0]? = some (a, .inl (cA, n, .inr (.inl f)))) (ht : tys[t0]? = some (cA, .long)) (hk : k < n) (hn : n < 2 ^ 31) (hdg : decode cc pc = .ok (.lastore, 1)) (hw : ws.set q0 (a, .inl (cA, n, .inr (.inl (vp_updL f k x)))) = ws')
    (kk : ∀ (H1 : Heap) (locs1 : List Loc), va_P D cl ws' H1 → va_D A ws' → va_S A H0 H1 locs1 → W p l e R s m args below meth c H1 locs1 cells slots Q (F0 m (pc + 1) ls rest)) : W p l e R s m args below meth c H locs cells slots Q (F0 m pc ls (.long x :: .int (nI k) :: .ref a :: rest)) := by
  refine va_last hx hb hK hP hD hS q0 t0 ha ht (vp_in_nI hk hn) hdg (fun H1 l1 h1 h2 h3 => ?_)
  rw [nI_clamp (Nat.lt_trans hk hn), hw] at h1 h2
  exact kk H1 l1 h1 h2 h3
/-- a callee throws, and the handler x takes it -/
theorem CtX.catchV {y : MethodName} {wsy wsy0 : List Cond} {rmy : Room} {by_ : ByteArray} {maxLy nL n index : Nat} {rt : Option FieldType} {b ci q0 : Nat} {fs : List Value} {As : List Value} {Ts : List Cond} {own C : String} {qc : vw_C} {wc wr : va_W} {isC isR ps : List Nat} {E : String} {hh : List (Nat × Nat × Nat × Nat)}
    (pre : List ExceptionTableEntry) (x : ExceptionTableEntry) (suf : List ExceptionTableEntry)
    (hM : CtX l y wsy rmy D tys (.ref b :: As) wc E) (hF0 : ctF p m c cc s args Ts own) (hG : GoodIn Ts (wsV own index C y wsy)) (hwy : wsy = Cond.code y by_ maxLy rt :: wsy0)
    (hd : y.cls = C ∧ y.cls ≠ "java/lang/invoke/MethodHandle" ∧ y.cls ≠ "java/lang/invoke/VarHandle" ∧ (parseMethodDescriptor y.desc).map (fun d => d.parameters.length) = some n) (hR : rmy.frames + 1 ≤ R.frames ∧ 8 + (maxLy + 11) + rmy.locals ≤ R.locals) (hrc : rmy.cells = 1 ∧ rmy.slots = 6) (hml : c.maxLocals = nL) (hls : ls.size = nL)
    (hxt : c.exceptionTable.toList = tableOf hh) (hsp : tableOf hh = pre ++ x :: suf) (hpass : ∀ z ∈ pre, covers z pc = false ∨ (z.catchType ≠ 0 ∧ ∃ nm : String, (Cond.classLink own z.catchType nm).before args s = true ∧ va_Nc E nm s)) (hcv : covers x pc = true ∧ x.catchType ≠ 0) (hlk : (Cond.classLink own x.catchType E).before args s = true) (hcast : va_Nw (.castable E E) s) (hT : TX A s)
    (hK : va_K D vwCl tys s) (hP : va_P D vwCl ws H) (hD : va_D A ws) (hS : va_S A s.heap H locs) (hA : ∀ q : Nat, s.heap.size ≤ q → A q) (hJ : ctJ ws wc wr wc ws' isC isR ps) (hrv : wc[q0]? = some (b, .inr (ci, fs))) (hcl : vwCl[ci]? = some qc ∧ qc.1 = C)
    (hst : st0 = As.reverse ++ .ref b :: rest) (hn : As.length = n) (hcat : (rest.map fun v => v.category).sum ≤ 8) (hcel : cells + 1 ≤ R.cells ∧ slots + 6 ≤ R.slots) (hdg : decode cc pc = .ok (.invokevirtual index, 3))
    (kk : ∀ (q : Nat) (H1 : Heap) (locs1 : List Loc), va_P D vwCl ws' H1 → va_D A ws' → va_S A s.heap H1 locs1 → W p l e R s m args below meth c H1 locs1 (cells + 1) (slots + 6) Q (F0 m x.handlerPc ls [.ref q])) : W p l e R s m args below meth c H locs cells slots Q (F0 m pc ls st0) := by
  obtain ⟨hx, hb, hown, hts⟩ := hF0
  have hPc := hP.sub isC (ct_fm hJ.1)
  have hrec := va_recv hK hPc hcl.1 hrv
  rw [hcl.2] at hrec
  have hr : vx_Run p l e R s m args below meth c H locs cells slots 1 6 (F0 m pc ls st0) rest (fun _ _ _ => False) (xXC D tys wc E (va_A wc H.size)) (va_A wc H.size) := vx_runV (As := As) (rest := rest) ⟨hx, hb, hml, hown, hts⟩ (hM H.size) (cwV n hts hG hwy hrc.1 hrc.2 hd hR) ⟨ctPN_blind TX.blind, hrec, ct_preX hT hS hA hK hP hD hJ.1 hJ.2.2.1⟩ rfl hn hls hst (lv_room hcat) hdg ⟨hcel.1, hcel.2⟩
  intro T hT' X
  rcases hr T hT' X with ⟨v, st₀, t, T', L, h0, X', hL, e1, e2, hq, st⟩ | ⟨q, st₀, t, T', L, E', ce, h0, X', hL, e1, e2, ⟨rfl, hB, hF⟩, hce, hcv', hcl', st⟩
  · exact hq.elim
  · have hfr := va_free hD hS hA isC hJ.1
    obtain ⟨k1, k2, k3⟩ := vx_keep h0 e1 hS (fun q _ h => hfr q h) hfr hL hF
    obtain ⟨j1, j2⟩ := ct_back hJ hP hD hS hA e1.symm hB k2
    obtain ⟨t2, a1, b1⟩ := vx_catch (ls := ls) (rest := rest) (pc := pc) hown pre x suf (hxt.trans hsp) hpass hcv.1 hcv.2 hlk (va_Nw.use rfl hcast) (show T'.heap[q]? = some ce by rw [e1]; exact hce) hcv' hcl' (kk q T'.heap (locs ++ L) j1 j2 k3) T' rfl X'
    exact ⟨t2, st.trans a1, b1⟩
end CL
end

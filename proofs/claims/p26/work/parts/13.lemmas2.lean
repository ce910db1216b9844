theorem la_slot_lt (k : Nat) (la : LAu) : la_slot k la < 150 := by
  obtain ⟨ll, lw, lc, lx⟩ := la
  exact Nat.mod_lt _ (by decide)
theorem cb_bd_try {la : LAu} {u : CBu} (hla : la_bd la) (hu : cb_bd u) : ∀ k, cb_bd (la_try la k u)
  | 0 => hu
  | k + 1 => by
    unfold la_try
    refine cb_bd_acc _ ?_ (cb_bd_try hla hu k)
    have h := la_slot_lt k la
    obtain ⟨ll, lw, lc, lx⟩ := la
    exact hla.2.2 _ h
theorem cb_bd_trial {la : LAu} {u : CBu} {s' p' : Nat} (hla : la_bd la) (hs : s' = 1 ∨ s' = 2 ∨ s' = 4 ∨ s' = 8 ∨ s' = 16) (hp : p' ≤ 8) : cb_bd (la_trial la s' p' u) := cb_bd_try hla (cb_bd_empty hs hp) _
theorem ob_walk_bd {a : Nat} {z : Int} {u : CBu} {la : LAu} (ha : a < 1024) (hu : cb_bd u) (hla : la_bd la) : ∀ k, cb_bd (ob_walk a z k u la).1 ∧ la_bd (ob_walk a z k u la).2
  | 0 => ⟨hu, hla⟩
  | k + 1 => by
    have h := adr_lt z ha k
    obtain ⟨h1, h2⟩ := ob_walk_bd (z := z) ha hu hla k
    exact ⟨cb_bd_acc _ (by omega) h1, la_bd_add _ (by omega) h2⟩
theorem cb_bd_bring {u : CBu} (hu : cb_bd u) : cb_bd (cb_bring u) := by
  obtain ⟨sc, pl, ln, bn, n, dt, hi, sw, mi, hc, co⟩ := u
  unfold cb_bring
  dsimp only
  obtain ⟨d1, h1, c1, e1⟩ := cb_bhS_eq sc (sc, pl, ln, bn, n, dt, hi, sw, mi, hc, co)
  rw [e1]
  obtain ⟨d2, h2, c2, e2⟩ := cb_bhB_eq bn n (sc, pl, ln, bn, n, d1, hi, sw, mi, h1, c1)
  dsimp only at e2 ⊢
  rw [e2]
  exact hu
theorem ofInt_toInt {z : Int} (h1 : -2147483648 ≤ z) (h2 : z < 2147483648) : (Int32.ofInt z).toInt = z := by
  rw [Int32.toInt_ofInt]
  show Int.bmod z 4294967296 = z
  exact Int.bmod_eq_of_le (by omega) (by omega)
theorem ofInt_ge {z : Int} (h1 : -64 ≤ z) (h2 : z ≤ 64) : ¬ Int32.ofInt z < -64 := by
  intro h
  have h3 := Int32.lt_iff_toInt_lt.mp h
  rw [ofInt_toInt (by omega) (by omega)] at h3
  have h4 : (-64 : Int32).toInt = -64 := by decide
  omega
theorem ofInt_le {z : Int} (h1 : -64 ≤ z) (h2 : z ≤ 64) : ¬ (64 : Int32) < Int32.ofInt z := by
  intro h
  have h3 := Int32.lt_iff_toInt_lt.mp h
  rw [ofInt_toInt (by omega) (by omega)] at h3
  have h4 : (64 : Int32).toInt = 64 := by decide
  omega
theorem nI_ofInt (n : Nat) : nI n = Int32.ofInt (n : Int) := rfl
theorem add_ofInt (a b : Int) : Int32.ofInt a + Int32.ofInt b = Int32.ofInt (a + b) := (Int32.ofInt_add a b).symm
theorem cpy_va {wr hm : Nat → Int32} {b k : Nat} {x y n : Int32} (hx : x = nI b) (hy : y = nI b) (hn : n = nI 4) (hb : b < 2 ^ 30) : va_cpy wr hm x.toNatClampNeg y.toNatClampNeg n.toNatClampNeg k = cpy hm wr b (b + 4) k := by
  subst hx; subst hy; subst hn
  rw [nI_clamp (by omega), nI_clamp (by omega)]
  unfold va_cpy cpy
  by_cases h : b ≤ k ∧ k < b + 4
  · rw [if_pos h, if_pos h]
    congr 1
    omega
  · rw [if_neg h, if_neg h]
theorem fm_pos (a : Nat) (z : Int) (h : 0 ≤ (a : Int) + z) : nI a + Int32.ofInt z = nI ((a : Int) + z).toNat := by
  rw [nI_ofInt, nI_ofInt, add_ofInt, Int.toNat_of_nonneg h]
theorem nxt_pos {a : Nat} {z : Int} (h : 0 ≤ (a : Int) + z) : ((a : Int) + z).toNat % 1024 = nxt a z := by
  unfold nxt
  omega
theorem nxt_up (a : Nat) (z : Int) (h : 0 ≤ (a : Int) + z + 1024) : ((a : Int) + z + 1024).toNat % 1024 = nxt a z := by
  unfold nxt
  omega
theorem fm_neg (a : Nat) (z : Int) (h : (a : Int) + z < 0) : nI a + Int32.ofInt z = -nI (-((a : Int) + z)).toNat := by
  rw [nI_ofInt, nI_ofInt, add_ofInt, ← Int32.ofInt_neg, Int.toNat_of_nonneg (by omega)]
  congr 1
  omega
theorem nxt_neg {a : Nat} {z : Int} (h : (a : Int) + z < 0) (h2 : -1024 ≤ (a : Int) + z) : 1024 - (-((a : Int) + z)).toNat = nxt a z := by
  unfold nxt
  omega
/-- what floorMod meets below 0: j from 1 to 64 -/
theorem fm_all : ∀ j : Fin 65, 0 < j.val → (-nI j.val) - (-nI j.val) / nI 1024 * nI 1024 = -nI j.val ∧ ((-nI j.val) ^^^ nI 1024) < 0 ∧ ¬ (-nI j.val) = 0 ∧ -nI j.val + nI 1024 = nI (1024 - j.val) := by decide +kernel
theorem fm_x {j : Nat} (h : j < 2048) : ¬ (nI j ^^^ nI 1024) < 0 := by
  have e : nI j ^^^ nI 1024 = nI (j ^^^ 1024) := by
    apply Int32.toBitVec_inj.mp
    rw [Int32.toBitVec_xor]
    show BitVec.ofNat 32 j ^^^ BitVec.ofNat 32 1024 = BitVec.ofNat 32 (j ^^^ 1024)
    exact (BitVec.ofNat_xor ..).symm
  rw [e]
  have := Nat.xor_lt_two_pow (n := 11) (x := j) (y := 1024) (by omega) (by omega)
  exact nI_pos (by omega)
theorem cb_sc16 {u : CBu} (h : cb_bd u) : u.1 ≤ 16 := by
  obtain ⟨sc, pl, ln, bn, n, dt, hi, sw, mi, hc, co⟩ := u
  obtain ⟨h1, -⟩ := h
  show sc ≤ 16
  omega
theorem cb_n8 {u : CBu} (h : cb_bd u) : u.2.2.2.2.1 ≤ 8 := by
  obtain ⟨sc, pl, ln, bn, n, dt, hi, sw, mi, hc, co⟩ := u
  exact h.2.2.1
theorem cb_ln256 {u : CBu} {k q : Nat} (h : cb_bd u) (hl : cb_ln u k = some q) : q < 256 := by
  obtain ⟨sc, pl, ln, bn, n, dt, hi, sw, mi, hc, co⟩ := u
  exact h.2.2.2.1 k q hl
/-- the same for a method whose owner has natives of its own -/
theorem CtI.ofF {l : Launch} {y : MethodName} {ws ws0 : List Cond} {rm : Room} {D : va_G} {tys : List (ClassId × FieldType)} {av : List Value} {w : va_W} {v : Int32} {w' : va_W} {cc : ByteArray} {maxL : Nat} {ret : Option FieldType} {lv0 : List (Nat × Value)}
    (hy : plainFor y = true) (hw : ws = Cond.code y cc maxL ret :: ws0) (hle : (lg_sl av).length ≤ maxL) (hlv : lv_args 0 av = lv0)
    (body : ∀ (p : Program) (e : Env) (s : State) (m : MethodId) (below : List Frame) (meth : Method) (c : Code) (A : Nat → Prop) (ls : Array Slot) (args : Array Value) (Q : State → Prop), p.tables.exec = Jvm.exec → c.code = cc → c.maxLocals = maxL → meth.sig.returnType = ret → meth.locks = false → (∀ wd ∈ ws, wd.before args s = true) → s.vm.findClass y.cls = some m.cls → va_K D vwCl tys s → va_P D vwCl w s.heap → (∀ q : Nat, s.heap.size ≤ q → A q) → va_D A w → va_S A s.heap s.heap [] → lv_has ls maxL lv0 →
      Q = MQ below (ctQi D tys v w' A) args s 0 0 A → W p l e rm s m args below meth c s.heap [] 0 0 Q (F0 m 0 ls [])) : CtI l y ws rm D tys av w v w' := by
  intro sz
  refine MetFree.of_bodySF (code := cc) (maxLocals := maxL) (ret := ret) hy ?_ ?_
  · intro args s m h hn
    obtain ⟨meth, c, h1, h2, h3, h4, h5, h6, -, -⟩ := Cond.code_spec hn (atoms_spec (ws := ws) h _ (by rw [hw]; exact List.mem_cons_self))
    exact ⟨meth, c, h1, h2, h3, h4, h5, h6⟩
  · intro p e s m args below meth c s₁ B hml hv _
    have hh0 : s₁.heap = s.heap := by rw [B.state]; rfl
    obtain ⟨rfl, hsz, hP, hK, hD0⟩ := hv
    have hts := atoms_spec (ws := ws) B.pre
    subst hsz
    have hl := lv_entry av (n := maxL) hle
    rw [hlv] at hl
    have hD : va_D (va_A w s.heap.size) w := hD0.self (sz := s.heap.size)
    have hb := body p e s m below meth c (va_A w s.heap.size) _ _ _ B.exec B.bytes hml B.returns B.notSynchronized hts (findClass_of_methodNamed B.named) hK hP (fun q h => Or.inr h) hD va_S.rf hl rfl
    rw [← lg_entry_eq] at hb
    obtain ⟨t, a1, o, b1, b2, b3⟩ := hb s₁ hh0 (Stand.of_body B)
    exact ⟨t, o, a1, b1, b2, ⟨b3.1, b3.2⟩⟩

/-! the law: what stands around each of its roads; small laws of its numbers -/
def LC (p : Program) (s : State) (m : MethodId) (args : Array Value) (meth : Method) (c : Code) (D : va_G) (A : Nat → Prop) (cyI cyZ cyJ : ClassId) (b L : Nat) (xs : Nat → Int32) : Prop := p.tables.exec = Jvm.exec ∧ c.code = cL_law ∧ s.vm.findClass RL = some m.cls ∧ (∀ w ∈ wsL_law, w.before args s = true) ∧ c.maxLocals = 13 ∧ va_K D vwCl (T3 cyI cyZ cyJ) s ∧ (∀ q : Nat, s.heap.size ≤ q → A q) ∧ va_X b L xs s s.heap ∧ b < s.heap.size ∧ ¬ A b ∧ L ≤ 260
/-- the worlds of the law: the bench, its words that the law remembers -/
abbrev wLw (cyI cyZ : ClassId) (ad : Nat → Nat) (qa : Nat) (wr hm w : Nat → Int32) (u tr : CBu) (la : LAu) : va_W := wOo cyI cyZ ad wr hm u tr la ++ wW cyI qa w
theorem wLw_len (cyI cyZ : ClassId) (ad : Nat → Nat) (qa : Nat) (wr hm w : Nat → Int32) (u tr : CBu) (la : LAu) : (wLw cyI cyZ ad qa wr hm w u tr la).length = 15 := by
  show (wOo cyI cyZ ad wr hm u tr la ++ wW cyI qa w).length = 15
  rw [List.length_append, wOo_len]
  rfl
abbrev lvH (b h qa k : Nat) : List (Nat × Value) := [(0, .ref b), (1, .ref h), (2, .ref qa), (3, .int (nI 1)), (4, .int (nI k))]
abbrev lvT (b h qa k x sl : Nat) (u : CBu) : List (Nat × Value) := [(0, .ref b), (1, .ref h), (2, .ref qa), (3, .int (nI 1)), (4, .int (nI k)), (5, .int (nI x)), (6, .int (nI sl)), (7, .int (nI (x % 16))), (8, .int (cb_hi u)), (9, .int (cb_co u)), (10, .int (nI (cb_where (ads sl / 4) u)))]
abbrev lvE (b h qa k x sl : Nat) : List (Nat × Value) := [(0, .ref b), (1, .ref h), (2, .ref qa), (3, .int (nI 1)), (4, .int (nI k)), (6, .int (nI sl)), (7, .int (nI (x % 16)))]
/-- the loop's head may be reached with k turns done -/
def KT (p : Program) (l : Launch) (e : Env) (s : State) (m : MethodId) (args : Array Value) (below : List Frame) (meth : Method) (c : Code) (Q : State → Prop) (D : va_G) (A : Nat → Prop) (cyI cyZ : ClassId) (b : Nat) (ad : Nat → Nat) (qa cells slots k : Nat) : Prop :=
  ∀ (H : Heap) (locs : List Loc) (ls : Array Slot) (wr hm w : Nat → Int32) (u : CBu) (la : LAu), LInv k wr w u la → va_P D vwCl (wLw cyI cyZ ad qa wr hm w u cb_new la) H → va_D A (wLw cyI cyZ ad qa wr hm w u cb_new la) → va_S A s.heap H locs → lv_has ls 13 (lvH b (ad 0) qa k) → W p l e room_1 s m args below meth c H locs cells slots Q (F0 m 18 ls [])
theorem shl5 {y : Nat} (h : y < 5) : nI 1 <<< (nI y &&& 31) = nI (2 ^ y) ∧ (2 ^ y = 1 ∨ 2 ^ y = 2 ∨ 2 ^ y = 4 ∨ 2 ^ y = 8 ∨ 2 ^ y = 16) := by
  rcases (show y = 0 ∨ y = 1 ∨ y = 2 ∨ y = 3 ∨ y = 4 by omega) with rfl | rfl | rfl | rfl | rfl <;> decide
theorem sub64 (n : Nat) : nI n - nI 64 = Int32.ofInt ((n : Int) - 64) := by
  rw [nI_ofInt, nI_ofInt, Int32.ofInt_sub]
  rfl
theorem lines_le {u : CBu} (h : Ok 256 u) : cb_lines u ≤ 24 := by
  obtain ⟨sc, pl, ln, bn, n, dt, hi, sw, mi, hc, co⟩ := u
  obtain ⟨a1, a2, a3, -⟩ := h
  have := cnt_le (fun s => (ln s).isSome) sc
  show n + cnt (fun s => (ln s).isSome) sc ≤ 24
  omega
theorem co_empty (s' p' : Nat) (u : CBu) : cb_co (cb_empty s' p' u) = cb_co u := by
  obtain ⟨sc, pl, ln, bn, n, dt, hi, sw, mi, hc, co⟩ := u
  rfl
theorem n_empty (s' p' : Nat) (u : CBu) : (cb_empty s' p' u).2.2.2.2.1 = 0 := by
  obtain ⟨sc, pl, ln, bn, n, dt, hi, sw, mi, hc, co⟩ := u
  rfl
theorem walk_cost {k a n : Nat} {z : Int} {wr w : Nat → Int32} {u : CBu} {la : LAu} (h : LInv k wr w u la) (hk : k ≤ 150) (hn : n ≤ 30) : ¬ cb_co (ob_walk a z n u la).1 < cb_co u + nI n := by
  obtain ⟨⟨-, -, -, c, -, h1, h2, -⟩, -⟩ := h
  obtain ⟨d, d1, d2, g, -⟩ := gr_walk a z u la n
  rw [g, h1, nI_add, nI_add]
  intro h3
  have := (nI_ltI (show c + d < 2 ^ 31 by omega) (show c + n < 2 ^ 31 by omega)).mp h3
  omega
theorem linv_ok {k : Nat} {wr w : Nat → Int32} {u : CBu} {la : LAu} (h : LInv k wr w u la) : Ok 256 u ∧ la_bd la ∧ CF u ∧ cb_bd u := ⟨h.1.1, h.1.2.1, h.1.2.2.1, ok_of h.1.1⟩

/-! the law: its rows, its worlds, one access of the script -/
section LW
variable {p : Program} {l : Launch} {e : Env} {R : Room} {s : State} {m : MethodId} {args : Array Value} {below : List Frame} {meth : Method} {c : Code} {H : Heap} {locs : List Loc} {cells slots : Nat} {Q : State → Prop}
variable {cc : ByteArray} {pc : Nat} {ls : Array Slot} {rest st0 : List Value} {D : va_G} {A : Nat → Prop} {tys : List (ClassId × FieldType)} {ws ws' w' : va_W}
theorem mq_lcmp {x : Int64} (hx : p.tables.exec = Jvm.exec) (hb : c.code = cc) (hdg : decode cc pc = .ok (.lcmp, 1))
    (k : W p l e R s m args below meth c H locs cells slots Q (F0 m (pc + 1) ls (.int 0 :: rest))) : W p l e R s m args below meth c H locs cells slots Q (F0 m pc ls (.long x :: .long x :: rest)) := by
  intro T hT X
  obtain ⟨t, a, b⟩ := k T hT X
  refine ⟨t, ?_, b⟩
  have h1 : ¬ (x > x) := Int64.lt_irrefl
  have h2 : (x == x) = true := beq_self_eq_true x
  jvm_step X.here [X.here.top, hx, hb, hdg, h1, h2]
  exact a
theorem mq_lald (hx : p.tables.exec = Jvm.exec) (hb : c.code = cc) {cl : List vw_C} (hK : va_K D cl tys s) (hP : va_P D cl ws H) (q0 t0 : Nat) {a : Nat} {cA : ClassId} {n k : Nat} {f : Nat → Int64} (ha : ws[q0]? = some (a, .inl (cA, n, .inr (.inl f)))) (ht : tys[t0]? = some (cA, .long)) (hk : k < n) (hn : n < 2 ^ 31) (hdg : decode cc pc = .ok (.laload, 1))
    (kk : W p l e R s m args below meth c H locs cells slots Q (F0 m (pc + 1) ls (.long (f k) :: rest))) : W p l e R s m args below meth c H locs cells slots Q (F0 m pc ls (.int (nI k) :: .ref a :: rest)) := by
  refine va_lald hx hb hK hP q0 t0 ha ht (vp_in_nI hk hn) hdg ?_
  rw [nI_clamp (Nat.lt_trans hk hn)]
  exact kk
theorem CtL.callS {y : MethodName} {wsy wsy0 : List Cond} {rmy : Room} {by_ : ByteArray} {maxLy nL n index : Nat} {rt : Option FieldType} {hh : List (Nat × Nat × Nat × Nat)} {As : List Value} {Ts : List Cond} {own : String} {wc wr w1 : va_W} {isC isR ps : List Nat} {v : Int32}
    (hM : CtL l y wsy rmy D tys As wc v w1) (S : ctF p m c cc s args Ts own) (hG : GoodIn Ts (va_wsS own index y wsy)) (hwy : wsy = Cond.codeWith y by_ maxLy rt hh :: wsy0)
    (hd : y.cls ≠ "java/lang/invoke/MethodHandle" ∧ y.cls ≠ "java/lang/invoke/VarHandle" ∧ (parseMethodDescriptor y.desc).map (fun d => d.parameters.length) = some n) (hR : rmy.frames + 1 ≤ R.frames ∧ 8 + (maxLy + 11) + rmy.locals ≤ R.locals) (hrc : rmy.cells = 1 ∧ rmy.slots = 6) (hml : c.maxLocals = nL) (hls : ls.size = nL) (hT : TXL A s)
    (hK : va_K D vwCl tys s) (hP : va_P D vwCl ws H) (hD : va_D A ws) (hS : va_S A s.heap H locs) (hA : ∀ q : Nat, s.heap.size ≤ q → A q) (hJ : ctJ ws wc wr w1 ws' isC isR ps)
    (hst : st0 = As.reverse ++ rest) (hn : As.length = n) (hcat : (rest.map fun v => v.category).sum ≤ 8) (hcel : cells + 1 ≤ R.cells ∧ slots + 6 ≤ R.slots) (hdg : decode cc pc = .ok (.invokestatic index, 3))
    (kk : ∀ (H1 : Heap) (locs1 : List Loc), va_P D vwCl ws' H1 → va_D A ws' → va_S A s.heap H1 locs1 → W p l e R s m args below meth c H1 locs1 (cells + 1) (slots + 6) Q (F0 m (pc + 3) ls (.int v :: rest))) : W p l e R s m args below meth c H locs cells slots Q (F0 m pc ls st0) := by
  obtain ⟨hx, hb, hown, hts⟩ := S
  have hF := va_free hD hS hA isC hJ.1
  have hr : vx_Run p l e R s m args below meth c H locs cells slots 1 6 (F0 m pc ls st0) rest (ctQi D tys v w1 (va_A wc H.size) As.toArray) xNx (va_A wc H.size) := vx_runSX (As := As) (rest := rest) ⟨hx, hb, hml, hown, hts⟩ (hM H.size) (vx_cwSW n hts hG hwy hrc.1 hrc.2 hd hR) ⟨ctPN_blind TXL.blind, ct_preN hK hP hD hJ.1 hJ.2.2.1 (fun U hU hW => hT.goes hS hF hU hW)⟩ rfl hn hls hst (lv_room hcat) hdg ⟨hcel.1, hcel.2⟩
  intro T hT' X
  rcases hr T hT' X with ⟨v0, st₀, t, T', L, h0, X', hL, e1, e2, ⟨⟨r, u, hv, hp, hB⟩, hF2⟩, st⟩ | ⟨q, st₀, t, T', L, E', ce, h0, X', hL, e1, e2, hq, hce, hcv', hcl', st⟩
  · cases hv
    obtain ⟨k1, k2, k3⟩ := vx_keep h0 e1 hS (fun q _ h => hF q h) hF hL hF2
    obtain ⟨j1, j2⟩ := ct_back hJ hP hD hS hA e1.symm hB k2
    obtain rfl : r = v := hp
    obtain ⟨t2, a1, b1⟩ := kk T'.heap (locs ++ L) j1 j2 k3 T' rfl X'
    exact ⟨t2, st t2 a1, b1⟩
  · exact hq.elim
end LW
/-! two worlds side by side -/
theorem map_rng {α : Type} (x y z : List α) : ∀ a, x.length = a → (List.range' a y.length).map (fun i => (x ++ (y ++ z))[i]?) = y.map some := by
  induction y generalizing x with
  | nil => intro a _; rfl
  | cons q qs ih =>
    intro a ha
    show (x ++ (q :: qs ++ z))[a]? :: _ = some q :: _
    congr 1
    · rw [List.getElem?_append_right (by omega), ha, Nat.sub_self]
      rfl
    · have := ih (x ++ [q]) (a + 1) (by simp [ha])
      rw [List.append_assoc] at this
      exact this
theorem ctJ_l {wc wr w1 : va_W} {n r : Nat} (h1 : wc.length = n) (h2 : wr.length = r) (h3 : w1.length = n) (hn1 : va_nd (List.range' 0 n) = true) (hn2 : va_nd (List.range' n r) = true) (hdis : ((List.range' n r).all fun i => decide (i ∉ List.range' 0 n)) = true) (hn3 : va_nd (List.range' r n ++ List.range' 0 r) = true) : ctJ (wc ++ wr) wc wr w1 (w1 ++ wr) (List.range' 0 n) (List.range' n r) (List.range' r n ++ List.range' 0 r) := by
  refine ⟨?_, ?_, hn1, hn2, hdis, ?_, hn3⟩
  · have := map_rng [] wc wr 0 rfl
    rw [h1] at this
    exact this
  · have := map_rng wc wr [] n h1
    rw [h2, List.append_nil] at this
    exact this
  · rw [List.map_append, List.map_append]
    congr 1
    · have := map_rng wr w1 [] r h2
      rw [h3, List.append_nil] at this
      exact this
    · have := map_rng [] wr w1 0 rfl
      rw [h2] at this
      exact this
theorem ctJ_r {wc wr w1 : va_W} {n r : Nat} (h1 : wc.length = n) (h2 : wr.length = r) (h3 : w1.length = n) (hn1 : va_nd (List.range' 0 r) = true) (hn2 : va_nd (List.range' r n) = true) (hdis : ((List.range' 0 r).all fun i => decide (i ∉ List.range' r n)) = true) (hn3 : va_nd (List.range' 0 (r + n)) = true) : ctJ (wr ++ wc) wc wr w1 (wr ++ w1) (List.range' r n) (List.range' 0 r) (List.range' 0 (r + n)) := by
  refine ⟨?_, ?_, hn2, hn1, hdis, ?_, hn3⟩
  · have := map_rng wr wc [] r h2
    rw [h1, List.append_nil] at this
    exact this
  · have := map_rng [] wr wc 0 rfl
    rw [h2] at this
    exact this
  · have := map_rng [] (wr ++ w1) [] 0 rfl
    rw [List.length_append, h2, h3, List.append_nil] at this
    exact this
def wOo (cyI cyZ : ClassId) (ad : Nat → Nat) (wr hm : Nat → Int32) (u tr : CBu) (la : LAu) : va_W := (OBo cyI (ad 0) (ad 1) (ad 2) (ad 3) (ad 7) (ad 11) wr hm) ++ ((CBc cyI cyZ (ad 3) (ad 4) (ad 5) (ad 6) u) ++ ((CBc cyI cyZ (ad 7) (ad 8) (ad 9) (ad 10) tr) ++ (LAc cyI cyZ (ad 11) (ad 12) (ad 13) la)))
abbrev wQo (cyJ : ClassId) (qo : Nat) (of : Nat → Int64) : va_W := [(qo, .inl (cyJ, 1, .inr (.inl of)))]
def wLo (cyI cyZ cyJ : ClassId) (ad : Nat → Nat) (qo : Nat) (wr hm : Nat → Int32) (u tr : CBu) (la : LAu) (of : Nat → Int64) : va_W := (OBo cyI (ad 0) (ad 1) (ad 2) (ad 3) (ad 7) (ad 11) wr hm) ++ ((CBc cyI cyZ (ad 3) (ad 4) (ad 5) (ad 6) u) ++ ((CBc cyI cyZ (ad 7) (ad 8) (ad 9) (ad 10) tr) ++ ((LAc cyI cyZ (ad 11) (ad 12) (ad 13) la) ++ (wQo cyJ qo of))))
def wMo (cyI : ClassId) (ga : Nat → Nat) (x : MDu) : va_W := MDc cyI (ga 0) (ga 1) (ga 2) (ga 3) (ga 4) (ga 5) (ga 6) (ga 7) (ga 8) (ga 9) (ga 10) x
theorem wLo_eq (cyI cyZ cyJ : ClassId) (ad : Nat → Nat) (qo : Nat) (wr hm : Nat → Int32) (u tr : CBu) (la : LAu) (of : Nat → Int64) : wLo cyI cyZ cyJ ad qo wr hm u tr la of = wOo cyI cyZ ad wr hm u tr la ++ wQo cyJ qo of := by
  unfold wLo wOo
  rw [List.append_assoc, List.append_assoc, List.append_assoc]
theorem CBc_len (cyI cyZ : ClassId) (h a1 a2 a3 : Nat) (u : CBu) : (CBc cyI cyZ h a1 a2 a3 u).length = 4 := by
  obtain ⟨sc, pl, ln, bn, n, dt, hi, sw, mi, hc, co⟩ := u
  rfl
theorem LAc_len (cyI cyZ : ClassId) (h a1 a2 : Nat) (u : LAu) : (LAc cyI cyZ h a1 a2 u).length = 3 := by
  obtain ⟨ll, lw, lc, lx⟩ := u
  rfl
theorem wOo_len (cyI cyZ : ClassId) (ad : Nat → Nat) (wr hm : Nat → Int32) (u tr : CBu) (la : LAu) : (wOo cyI cyZ ad wr hm u tr la).length = 14 := by
  unfold wOo
  rw [List.length_append, List.length_append, List.length_append, CBc_len, CBc_len, LAc_len]
  rfl
theorem wLo_len (cyI cyZ cyJ : ClassId) (ad : Nat → Nat) (qo : Nat) (wr hm : Nat → Int32) (u tr : CBu) (la : LAu) (of : Nat → Int64) : (wLo cyI cyZ cyJ ad qo wr hm u tr la of).length = 15 := by
  rw [wLo_eq, List.length_append, wOo_len]
  rfl
theorem wLo_q (cyI cyZ cyJ : ClassId) (ad : Nat → Nat) (qo : Nat) (wr hm : Nat → Int32) (u tr : CBu) (la : LAu) (of : Nat → Int64) (w : va_W) : (wLo cyI cyZ cyJ ad qo wr hm u tr la of ++ w)[14]? = some (qo, .inl (cyJ, 1, .inr (.inl of))) := by
  rw [List.getElem?_append_left (by rw [wLo_len]; decide), wLo_eq, List.getElem?_append_right (by rw [wOo_len]; exact Nat.le_refl _), wOo_len]
  rfl
theorem wMo_len (cyI : ClassId) (ga : Nat → Nat) (x : MDu) : (wMo cyI ga x).length = 11 := by
  obtain ⟨mw, mh, ms, mp, ml, mb, mm, md, mc, mhi, msw, mmi, mhc, ma, mq, mt⟩ := x
  rfl
theorem wMo_h (cyI : ClassId) (ga : Nat → Nat) (x : MDu) : ∃ fs : List Value, (wMo cyI ga x)[0]? = some (ga 0, .inr (3, fs)) := by
  obtain ⟨mw, mh, ms, mp, ml, mb, mm, md, mc, mhi, msw, mmi, mhc, ma, mq, mt⟩ := x
  exact ⟨_, rfl⟩
theorem wOo_h (cyI cyZ : ClassId) (ad : Nat → Nat) (wr hm : Nat → Int32) (u tr : CBu) (la : LAu) : (wOo cyI cyZ ad wr hm u tr la)[0]? = some (ad 0, .inr (2, [.ref (ad 1), .ref (ad 2), .ref (ad 3), .ref (ad 7), .ref (ad 11)])) := rfl

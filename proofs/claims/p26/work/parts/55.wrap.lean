/-! the class's contracts over one world; two worlds side by side -/
theorem map_rng {α : Type} (x y z : List α) : ∀ a, x.length = a → (List.range' a y.length).map (fun i => (x ++ (y ++ z))[i]?) = y.map some := by
  induction y generalizing x with
  | nil => intro a _; rfl
  | cons q qs ih =>
    intro a ha
    show (x ++ (q :: qs ++ z))[a]? :: _ = some q :: _
    congr 1
    · rw [List.getElem?_append_right (by omega), ha, Nat.sub_self]
      rfl
    · have := ih (x ++ [q]) (a + 1) (by simp [ha])
      rw [List.append_assoc] at this
      exact this
theorem ctJ_l {wc wr w1 : va_W} {n r : Nat} (h1 : wc.length = n) (h2 : wr.length = r) (h3 : w1.length = n) (hn1 : va_nd (List.range' 0 n) = true) (hn2 : va_nd (List.range' n r) = true) (hdis : ((List.range' n r).all fun i => decide (i ∉ List.range' 0 n)) = true) (hn3 : va_nd (List.range' r n ++ List.range' 0 r) = true) : ctJ (wc ++ wr) wc wr w1 (w1 ++ wr) (List.range' 0 n) (List.range' n r) (List.range' r n ++ List.range' 0 r) := by
  refine ⟨?_, ?_, hn1, hn2, hdis, ?_, hn3⟩
  · have := map_rng [] wc wr 0 rfl
    rw [h1] at this
    exact this
  · have := map_rng wc wr [] n h1
    rw [h2, List.append_nil] at this
    exact this
  · rw [List.map_append, List.map_append]
    congr 1
    · have := map_rng wr w1 [] r h2
      rw [h3, List.append_nil] at this
      exact this
    · have := map_rng [] wr w1 0 rfl
      rw [h2] at this
      exact this
theorem ctJ_r {wc wr w1 : va_W} {n r : Nat} (h1 : wc.length = n) (h2 : wr.length = r) (h3 : w1.length = n) (hn1 : va_nd (List.range' 0 r) = true) (hn2 : va_nd (List.range' r n) = true) (hdis : ((List.range' 0 r).all fun i => decide (i ∉ List.range' r n)) = true) (hn3 : va_nd (List.range' 0 (r + n)) = true) : ctJ (wr ++ wc) wc wr w1 (wr ++ w1) (List.range' r n) (List.range' 0 r) (List.range' 0 (r + n)) := by
  refine ⟨?_, ?_, hn2, hn1, hdis, ?_, hn3⟩
  · have := map_rng wr wc [] r h2
    rw [h1, List.append_nil] at this
    exact this
  · have := map_rng [] wr wc 0 rfl
    rw [h2] at this
    exact this
  · have := map_rng [] (wr ++ w1) [] 0 rfl
    rw [List.length_append, h2, h3, List.append_nil] at this
    exact this
def wOo (cyI cyZ : ClassId) (ad : Nat → Nat) (wr hm : Nat → Int32) (u tr : CBu) (la : LAu) : va_W := (OBo cyI (ad 0) (ad 1) (ad 2) (ad 3) (ad 7) (ad 11) wr hm) ++ ((CBc cyI cyZ (ad 3) (ad 4) (ad 5) (ad 6) u) ++ ((CBc cyI cyZ (ad 7) (ad 8) (ad 9) (ad 10) tr) ++ (LAc cyI cyZ (ad 11) (ad 12) (ad 13) la)))
theorem CBc_len (cyI cyZ : ClassId) (h a1 a2 a3 : Nat) (u : CBu) : (CBc cyI cyZ h a1 a2 a3 u).length = 4 := by
  obtain ⟨sc, pl, ln, bn, n, dt, hi, sw, mi, hc, co⟩ := u
  rfl
theorem LAc_len (cyI cyZ : ClassId) (h a1 a2 : Nat) (u : LAu) : (LAc cyI cyZ h a1 a2 u).length = 3 := by
  obtain ⟨ll, lw, lc, lx⟩ := u
  rfl
theorem wOo_len (cyI cyZ : ClassId) (ad : Nat → Nat) (wr hm : Nat → Int32) (u tr : CBu) (la : LAu) : (wOo cyI cyZ ad wr hm u tr la).length = 14 := by
  unfold wOo
  rw [List.length_append, List.length_append, List.length_append, CBc_len, CBc_len, LAc_len]
  rfl
theorem wOo_h (cyI cyZ : ClassId) (ad : Nat → Nat) (wr hm : Nat → Int32) (u tr : CBu) (la : LAu) : (wOo cyI cyZ ad wr hm u tr la)[0]? = some (ad 0, .inr (2, [.ref (ad 1), .ref (ad 2), .ref (ad 3), .ref (ad 7), .ref (ad 11)])) := rfl
/-- a world that is the callee's alone -/
theorem ctJ_a {w w1 : va_W} {n : Nat} (h1 : w.length = n) (h3 : w1.length = n) (hn1 : va_nd (List.range' 0 n) = true) : ctJ w w [] w1 w1 (List.range' 0 n) [] (List.range' 0 n) := by
  have e1 := map_rng [] w [] 0 rfl
  have e2 := map_rng [] w1 [] 0 rfl
  rw [h1, List.append_nil] at e1
  rw [h3, List.append_nil] at e2
  exact ⟨e1, rfl, hn1, rfl, rfl, e2, hn1⟩
abbrev wW (cyI : ClassId) (qa : Nat) (w : Nat → Int32) : va_W := [(qa, .inl (cyI, 64, .inl w))]
theorem wL_q (cyI cyZ : ClassId) (ad : Nat → Nat) (wr hm : Nat → Int32) (u tr : CBu) (la : LAu) (qa : Nat) (w : Nat → Int32) : (wOo cyI cyZ ad wr hm u tr la ++ wW cyI qa w)[14]? = some (qa, .inl (cyI, 64, .inl w)) := by
  rw [List.getElem?_append_right (by rw [wOo_len]; exact Nat.le_refl _), wOo_len]
  rfl
theorem wL_set (cyI cyZ : ClassId) (ad : Nat → Nat) (wr hm : Nat → Int32) (u tr : CBu) (la : LAu) (qa : Nat) (w w2 : Nat → Int32) : (wOo cyI cyZ ad wr hm u tr la ++ wW cyI qa w).set 14 (qa, .inl (cyI, 64, .inl w2)) = wOo cyI cyZ ad wr hm u tr la ++ wW cyI qa w2 := by
  rw [List.set_append_right _ _ (by rw [wOo_len]; exact Nat.le_refl _), wOo_len]
  rfl
theorem o_hits (l : Launch) (D : va_G) (cyI cyZ cyJ : ClassId) (ad : Nat → Nat) (wr hm : Nat → Int32) (u tr : CBu) (la : LAu)   : CtI l yX2_hits wsX2_hits rmX2_hits D (T3 cyI cyZ cyJ) [.ref (ad 0)] (wOo cyI cyZ ad wr hm u tr la) (cb_hi u) (wOo cyI cyZ ad wr hm u tr la) := by
  unfold wOo
  exact c_hits l D cyI cyZ cyJ (ad 0) (ad 1) (ad 2) (ad 3) (ad 4) (ad 5) (ad 6) (ad 7) (ad 8) (ad 9) (ad 10) (ad 11) (ad 12) (ad 13) wr hm u tr la 
theorem o_swaps (l : Launch) (D : va_G) (cyI cyZ cyJ : ClassId) (ad : Nat → Nat) (wr hm : Nat → Int32) (u tr : CBu) (la : LAu)   : CtI l yX2_swaps wsX2_swaps rmX2_swaps D (T3 cyI cyZ cyJ) [.ref (ad 0)] (wOo cyI cyZ ad wr hm u tr la) (cb_sw u) (wOo cyI cyZ ad wr hm u tr la) := by
  unfold wOo
  exact c_swaps l D cyI cyZ cyJ (ad 0) (ad 1) (ad 2) (ad 3) (ad 4) (ad 5) (ad 6) (ad 7) (ad 8) (ad 9) (ad 10) (ad 11) (ad 12) (ad 13) wr hm u tr la 
theorem o_misses (l : Launch) (D : va_G) (cyI cyZ cyJ : ClassId) (ad : Nat → Nat) (wr hm : Nat → Int32) (u tr : CBu) (la : LAu)   : CtI l yX2_misses wsX2_misses rmX2_misses D (T3 cyI cyZ cyJ) [.ref (ad 0)] (wOo cyI cyZ ad wr hm u tr la) (cb_mi u) (wOo cyI cyZ ad wr hm u tr la) := by
  unfold wOo
  exact c_misses l D cyI cyZ cyJ (ad 0) (ad 1) (ad 2) (ad 3) (ad 4) (ad 5) (ad 6) (ad 7) (ad 8) (ad 9) (ad 10) (ad 11) (ad 12) (ad 13) wr hm u tr la 
theorem o_homecomings (l : Launch) (D : va_G) (cyI cyZ cyJ : ClassId) (ad : Nat → Nat) (wr hm : Nat → Int32) (u tr : CBu) (la : LAu)   : CtI l yX2_homecomings wsX2_homecomings rmX2_homecomings D (T3 cyI cyZ cyJ) [.ref (ad 0)] (wOo cyI cyZ ad wr hm u tr la) (cb_hc u) (wOo cyI cyZ ad wr hm u tr la) := by
  unfold wOo
  exact c_homecomings l D cyI cyZ cyJ (ad 0) (ad 1) (ad 2) (ad 3) (ad 4) (ad 5) (ad 6) (ad 7) (ad 8) (ad 9) (ad 10) (ad 11) (ad 12) (ad 13) wr hm u tr la 
theorem o_cost (l : Launch) (D : va_G) (cyI cyZ cyJ : ClassId) (ad : Nat → Nat) (wr hm : Nat → Int32) (u tr : CBu) (la : LAu)   : CtI l yX2_cost wsX2_cost rmX2_cost D (T3 cyI cyZ cyJ) [.ref (ad 0)] (wOo cyI cyZ ad wr hm u tr la) (cb_co u) (wOo cyI cyZ ad wr hm u tr la) := by
  unfold wOo
  exact c_cost l D cyI cyZ cyJ (ad 0) (ad 1) (ad 2) (ad 3) (ad 4) (ad 5) (ad 6) (ad 7) (ad 8) (ad 9) (ad 10) (ad 11) (ad 12) (ad 13) wr hm u tr la 
theorem o_sets (l : Launch) (D : va_G) (cyI cyZ cyJ : ClassId) (ad : Nat → Nat) (wr hm : Nat → Int32) (u tr : CBu) (la : LAu)   : CtI l yX2_sets wsX2_sets rmX2_sets D (T3 cyI cyZ cyJ) [.ref (ad 0)] (wOo cyI cyZ ad wr hm u tr la) (nI u.1) (wOo cyI cyZ ad wr hm u tr la) := by
  unfold wOo
  exact c_sets l D cyI cyZ cyJ (ad 0) (ad 1) (ad 2) (ad 3) (ad 4) (ad 5) (ad 6) (ad 7) (ad 8) (ad 9) (ad 10) (ad 11) (ad 12) (ad 13) wr hm u tr la 
theorem o_places (l : Launch) (D : va_G) (cyI cyZ cyJ : ClassId) (ad : Nat → Nat) (wr hm : Nat → Int32) (u tr : CBu) (la : LAu)   : CtI l yX2_places wsX2_places rmX2_places D (T3 cyI cyZ cyJ) [.ref (ad 0)] (wOo cyI cyZ ad wr hm u tr la) (nI u.2.1) (wOo cyI cyZ ad wr hm u tr la) := by
  unfold wOo
  exact c_places l D cyI cyZ cyJ (ad 0) (ad 1) (ad 2) (ad 3) (ad 4) (ad 5) (ad 6) (ad 7) (ad 8) (ad 9) (ad 10) (ad 11) (ad 12) (ad 13) wr hm u tr la 
theorem o_sitting (l : Launch) (D : va_G) (cyI cyZ cyJ : ClassId) (ad : Nat → Nat) (wr hm : Nat → Int32) (u tr : CBu) (la : LAu)   : CtI l yX2_sitting wsX2_sitting rmX2_sitting D (T3 cyI cyZ cyJ) [.ref (ad 0)] (wOo cyI cyZ ad wr hm u tr la) (nI u.2.2.2.2.1) (wOo cyI cyZ ad wr hm u tr la) := by
  unfold wOo
  exact c_sitting l D cyI cyZ cyJ (ad 0) (ad 1) (ad 2) (ad 3) (ad 4) (ad 5) (ad 6) (ad 7) (ad 8) (ad 9) (ad 10) (ad 11) (ad 12) (ad 13) wr hm u tr la 
theorem o_dirty (l : Launch) (D : va_G) (cyI cyZ cyJ : ClassId) (ad : Nat → Nat) (wr hm : Nat → Int32) (u tr : CBu) (la : LAu)   : CtI l yX2_dirty wsX2_dirty rmX2_dirty D (T3 cyI cyZ cyJ) [.ref (ad 0)] (wOo cyI cyZ ad wr hm u tr la) (nI (cb_dirty u)) (wOo cyI cyZ ad wr hm u tr la) := by
  unfold wOo
  exact c_dirty l D cyI cyZ cyJ (ad 0) (ad 1) (ad 2) (ad 3) (ad 4) (ad 5) (ad 6) (ad 7) (ad 8) (ad 9) (ad 10) (ad 11) (ad 12) (ad 13) wr hm u tr la 
theorem o_lineIn (l : Launch) (D : va_G) (cyI cyZ cyJ : ClassId) (ad : Nat → Nat) (wr hm : Nat → Int32) (u tr : CBu) (la : LAu) (k : Nat) (hbd : cb_bd u) (hk : k < u.1) : CtI l yX2_lineIn wsX2_lineIn rmX2_lineIn D (T3 cyI cyZ cyJ) [.ref (ad 0), .int (nI k)] (wOo cyI cyZ ad wr hm u tr la) (oI (cb_ln u k)) (wOo cyI cyZ ad wr hm u tr la) := by
  unfold wOo
  exact c_lineIn l D cyI cyZ cyJ (ad 0) (ad 1) (ad 2) (ad 3) (ad 4) (ad 5) (ad 6) (ad 7) (ad 8) (ad 9) (ad 10) (ad 11) (ad 12) (ad 13) wr hm u tr la k hbd hk
theorem o_lineOnBench (l : Launch) (D : va_G) (cyI cyZ cyJ : ClassId) (ad : Nat → Nat) (wr hm : Nat → Int32) (u tr : CBu) (la : LAu) (k : Nat) (hbd : cb_bd u) (hk : k < u.2.2.2.2.1) : CtI l yX2_lineOnBench wsX2_lineOnBench rmX2_lineOnBench D (T3 cyI cyZ cyJ) [.ref (ad 0), .int (nI k)] (wOo cyI cyZ ad wr hm u tr la) (nI (u.2.2.2.1 (u.2.2.2.2.1 - 1 - k))) (wOo cyI cyZ ad wr hm u tr la) := by
  unfold wOo
  exact c_lineOnBench l D cyI cyZ cyJ (ad 0) (ad 1) (ad 2) (ad 3) (ad 4) (ad 5) (ad 6) (ad 7) (ad 8) (ad 9) (ad 10) (ad 11) (ad 12) (ad 13) wr hm u tr la k hbd hk
theorem o_placeOf (l : Launch) (D : va_G) (cyI cyZ cyJ : ClassId) (ad : Nat → Nat) (wr hm : Nat → Int32) (u tr : CBu) (la : LAu) (q : Nat) (hbd : cb_bd u) (hq : q < 256) : CtI l yX2_placeOf wsX2_placeOf rmX2_placeOf D (T3 cyI cyZ cyJ) [.ref (ad 0), .int (nI q)] (wOo cyI cyZ ad wr hm u tr la) (nI (cb_where q u)) (wOo cyI cyZ ad wr hm u tr la) := by
  unfold wOo
  exact c_placeOf l D cyI cyZ cyJ (ad 0) (ad 1) (ad 2) (ad 3) (ad 4) (ad 5) (ad 6) (ad 7) (ad 8) (ad 9) (ad 10) (ad 11) (ad 12) (ad 13) wr hm u tr la q hbd hq
theorem o_isDirty (l : Launch) (D : va_G) (cyI cyZ cyJ : ClassId) (ad : Nat → Nat) (wr hm : Nat → Int32) (u tr : CBu) (la : LAu) (q : Nat) (hq : q < 256) : CtI l yX2_isDirty wsX2_isDirty rmX2_isDirty D (T3 cyI cyZ cyJ) [.ref (ad 0), .int (nI q)] (wOo cyI cyZ ad wr hm u tr la) (bI (cb_dt u q)) (wOo cyI cyZ ad wr hm u tr la) := by
  unfold wOo
  exact c_isDirty l D cyI cyZ cyJ (ad 0) (ad 1) (ad 2) (ad 3) (ad 4) (ad 5) (ad 6) (ad 7) (ad 8) (ad 9) (ad 10) (ad 11) (ad 12) (ad 13) wr hm u tr la q hq
theorem o_atHome (l : Launch) (D : va_G) (cyI cyZ cyJ : ClassId) (ad : Nat → Nat) (wr hm : Nat → Int32) (u tr : CBu) (la : LAu) (a : Nat) (ha : a < 1024) : CtI l yX2_atHome wsX2_atHome rmX2_atHome D (T3 cyI cyZ cyJ) [.ref (ad 0), .int (nI a)] (wOo cyI cyZ ad wr hm u tr la) ((if cb_dt u (a / 4) = true then hm a else wr a)) (wOo cyI cyZ ad wr hm u tr la) := by
  unfold wOo
  exact c_atHome l D cyI cyZ cyJ (ad 0) (ad 1) (ad 2) (ad 3) (ad 4) (ad 5) (ad 6) (ad 7) (ad 8) (ad 9) (ad 10) (ad 11) (ad 12) (ad 13) wr hm u tr la a ha
theorem o_peek (l : Launch) (D : va_G) (cyI cyZ cyJ : ClassId) (ad : Nat → Nat) (wr hm : Nat → Int32) (u tr : CBu) (la : LAu) (a : Nat) (ha : a < 1024) : CtI l yX2_peek wsX2_peek rmX2_peek D (T3 cyI cyZ cyJ) [.ref (ad 0), .int (nI a)] (wOo cyI cyZ ad wr hm u tr la) ((wr a)) (wOo cyI cyZ ad wr hm u tr la) := by
  unfold wOo
  exact c_peek l D cyI cyZ cyJ (ad 0) (ad 1) (ad 2) (ad 3) (ad 4) (ad 5) (ad 6) (ad 7) (ad 8) (ad 9) (ad 10) (ad 11) (ad 12) (ad 13) wr hm u tr la a ha
theorem o_read (l : Launch) (D : va_G) (cyI cyZ cyJ : ClassId) (ad : Nat → Nat) (wr hm : Nat → Int32) (u tr : CBu) (la : LAu) (a : Nat) (hbd : cb_bd u) (hla : la_bd la) (ha : a < 1024) : CtI l yX2_read wsX2_read rmX2_read D (T3 cyI cyZ cyJ) [.ref (ad 0), .int (nI a)] (wOo cyI cyZ ad wr hm u tr la) ((wr a)) (wOo cyI cyZ ad wr hm (cb_acc (a / 4) false u) tr (la_add (a / 4) false la)) := by
  unfold wOo
  exact c_read l D cyI cyZ cyJ (ad 0) (ad 1) (ad 2) (ad 3) (ad 4) (ad 5) (ad 6) (ad 7) (ad 8) (ad 9) (ad 10) (ad 11) (ad 12) (ad 13) wr hm u tr la a hbd hla ha
theorem o_write (l : Launch) (D : va_G) (cyI cyZ cyJ : ClassId) (ad : Nat → Nat) (wr hm : Nat → Int32) (u tr : CBu) (la : LAu) (a : Nat) (v : Int32) (hbd : cb_bd u) (hla : la_bd la) (ha : a < 1024) : CtI l yX2_write wsX2_write rmX2_write D (T3 cyI cyZ cyJ) [.ref (ad 0), .int (nI a), .int v] (wOo cyI cyZ ad wr hm u tr la) ((wr a)) (wOo cyI cyZ ad (ru wr a v) (if cb_dt u (a / 4) = true then hm else cpy hm wr (a / 4 * 4) (a / 4 * 4 + 4)) (cb_acc (a / 4) true u) tr (la_add (a / 4) true la)) := by
  unfold wOo
  exact c_write l D cyI cyZ cyJ (ad 0) (ad 1) (ad 2) (ad 3) (ad 4) (ad 5) (ad 6) (ad 7) (ad 8) (ad 9) (ad 10) (ad 11) (ad 12) (ad 13) wr hm u tr la a v hbd hla ha
theorem o_walk (l : Launch) (D : va_G) (cyI cyZ cyJ : ClassId) (ad : Nat → Nat) (wr hm : Nat → Int32) (u tr : CBu) (la : LAu) (a : Nat) (z : Int) (k : Nat) (hbd : cb_bd u) (hla : la_bd la) (ha : a < 1024) (hz1 : -64 ≤ z) (hz2 : z ≤ 64) (hk1 : 1 ≤ k) (hk2 : k ≤ 100) : CtI l yX2_walk wsX2_walk rmX2_walk D (T3 cyI cyZ cyJ) [.ref (ad 0), .int (nI a), .int (Int32.ofInt z), .int (nI k)] (wOo cyI cyZ ad wr hm u tr la) (cb_co (ob_walk a z k u la).1 - cb_co u) (wOo cyI cyZ ad wr hm ((ob_walk a z k u la).1) tr ((ob_walk a z k u la).2)) := by
  unfold wOo
  exact c_walk l D cyI cyZ cyJ (ad 0) (ad 1) (ad 2) (ad 3) (ad 4) (ad 5) (ad 6) (ad 7) (ad 8) (ad 9) (ad 10) (ad 11) (ad 12) (ad 13) wr hm u tr la a z k hbd hla ha hz1 hz2 hk1 hk2
theorem o_bringHome (l : Launch) (D : va_G) (cyI cyZ cyJ : ClassId) (ad : Nat → Nat) (wr hm : Nat → Int32) (u tr : CBu) (la : LAu)  (hbd : cb_bd u) : CtI l yX2_bringHome wsX2_bringHome rmX2_bringHome D (T3 cyI cyZ cyJ) [.ref (ad 0)] (wOo cyI cyZ ad wr hm u tr la) (cb_hc (cb_bring u) - cb_hc u) (wOo cyI cyZ ad wr hm (cb_bring u) tr la) := by
  unfold wOo
  exact c_bringHome l D cyI cyZ cyJ (ad 0) (ad 1) (ad 2) (ad 3) (ad 4) (ad 5) (ad 6) (ad 7) (ad 8) (ad 9) (ad 10) (ad 11) (ad 12) (ad 13) wr hm u tr la hbd
theorem o_build (l : Launch) (D : va_G) (cyI cyZ cyJ : ClassId) (ad : Nat → Nat) (wr hm : Nat → Int32) (u tr : CBu) (la : LAu) (s' p' : Nat) (hbd : cb_bd u) (hs : s' = 1 ∨ s' = 2 ∨ s' = 4 ∨ s' = 8 ∨ s' = 16) (hp : p' ≤ 8) : CtI l yX2_build wsX2_build rmX2_build D (T3 cyI cyZ cyJ) [.ref (ad 0), .int (nI s'), .int (nI p')] (wOo cyI cyZ ad wr hm u tr la) (nI (cb_lines u)) (wOo cyI cyZ ad wr hm (cb_empty s' p' (cb_bring u)) tr la) := by
  unfold wOo
  exact c_build l D cyI cyZ cyJ (ad 0) (ad 1) (ad 2) (ad 3) (ad 4) (ad 5) (ad 6) (ad 7) (ad 8) (ad 9) (ad 10) (ad 11) (ad 12) (ad 13) wr hm u tr la s' p' hbd hs hp
theorem o_cast (l : Launch) (D : va_G) (cyI cyZ cyJ : ClassId) (ad : Nat → Nat) (wr hm : Nat → Int32) (u tr : CBu) (la : LAu) (k q : Nat) (hbd : cb_bd u) (hk : k < u.1) (hln : cb_ln u k = some q) : CtI l yX2_cast wsX2_cast rmX2_cast D (T3 cyI cyZ cyJ) [.ref (ad 0), .int (nI k)] (wOo cyI cyZ ad wr hm u tr la) (nI q) (wOo cyI cyZ ad wr hm (cb_throw k u) tr la) := by
  unfold wOo
  exact c_cast l D cyI cyZ cyJ (ad 0) (ad 1) (ad 2) (ad 3) (ad 4) (ad 5) (ad 6) (ad 7) (ad 8) (ad 9) (ad 10) (ad 11) (ad 12) (ad 13) wr hm u tr la k q hbd hk hln
theorem o_wouldCost (l : Launch) (D : va_G) (cyI cyZ cyJ : ClassId) (ad : Nat → Nat) (wr hm : Nat → Int32) (u tr : CBu) (la : LAu) (s' p' : Nat) (hla : la_bd la) (hs : s' = 1 ∨ s' = 2 ∨ s' = 4 ∨ s' = 8 ∨ s' = 16) (hp : p' ≤ 8) : CtI l yX2_wouldCost wsX2_wouldCost rmX2_wouldCost D (T3 cyI cyZ cyJ) [.ref (ad 0), .int (nI s'), .int (nI p')] (wOo cyI cyZ ad wr hm u tr la) (cb_co (la_trial la s' p' tr) - cb_co tr) (wOo cyI cyZ ad wr hm u (la_trial la s' p' tr) la) := by
  unfold wOo
  exact c_wouldCost l D cyI cyZ cyJ (ad 0) (ad 1) (ad 2) (ad 3) (ad 4) (ad 5) (ad 6) (ad 7) (ad 8) (ad 9) (ad 10) (ad 11) (ad 12) (ad 13) wr hm u tr la s' p' hla hs hp
theorem o_bestPlaces (l : Launch) (D : va_G) (cyI cyZ cyJ : ClassId) (ad : Nat → Nat) (wr hm : Nat → Int32) (u tr : CBu) (la : LAu)  (hbd : cb_bd u) (hla : la_bd la) : CtI l yX2_bestPlaces wsX2_bestPlaces rmX2_bestPlaces D (T3 cyI cyZ cyJ) [.ref (ad 0)] (wOo cyI cyZ ad wr hm u tr la) (nI (la_best la u.1 8 tr).1) (wOo cyI cyZ ad wr hm u ((la_best la u.1 8 tr).2.2) la) := by
  unfold wOo
  exact c_bestPlaces l D cyI cyZ cyJ (ad 0) (ad 1) (ad 2) (ad 3) (ad 4) (ad 5) (ad 6) (ad 7) (ad 8) (ad 9) (ad 10) (ad 11) (ad 12) (ad 13) wr hm u tr la hbd hla

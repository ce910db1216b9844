/-! counts, marks, the ring -/
def cb_cn : CBu → Int32 × Int32 × Int32 := fun (sc, pl, ln, bn, n, dt, hi, sw, mi, hc, co) => (hi, sw, mi)
def md_cn : MDu → Int32 × Int32 × Int32 := fun (mw, mh, ms, mp, ml, mb, mm, md, mc, mhi, msw, mmi, mhc, ma, mq, mt) => (mhi, msw, mmi)
def cb_mark (q : Nat) (b : Bool) : CBu → CBu := fun (sc, pl, ln, bn, n, dt, hi, sw, mi, hc, co) => (sc, pl, ln, bn, n, if b then ru dt q true else dt, hi, sw, mi, hc, co)
theorem put_mark (s q : Nat) (b : Bool) (u : CBu) : cb_put s q b u = cb_mark q b (cb_put s q false u) := by
  obtain ⟨sc, pl, ln, bn, n, dt, hi, sw, mi, hc, co⟩ := u
  rfl
theorem acc_mark (q : Nat) (b : Bool) (u : CBu) : cb_acc q b u = cb_mark q b (cb_acc q false u) := by
  unfold cb_acc
  split
  · obtain ⟨sc, pl, ln, bn, n, dt, hi, sw, mi, hc, co⟩ := u
    rfl
  · split
    · exact put_mark _ _ _ _
    · exact put_mark _ _ _ _
theorem cn_throw (s : Nat) (u : CBu) : cb_cn (cb_throw s u) = cb_cn u := by
  obtain ⟨sc, pl, ln, bn, n, dt, hi, sw, mi, hc, co⟩ := u
  unfold cb_throw
  dsimp only
  split
  · rfl
  · split
    · rfl
    · split
      · rfl
      · rfl
theorem cn_put (s q : Nat) (b : Bool) (u : CBu) : cb_cn (cb_put s q b u) = cb_cn u := by
  obtain ⟨sc, pl, ln, bn, n, dt, hi, sw, mi, hc, co⟩ := u
  rfl
theorem mcn_goes (w q : Nat) (x : MDu) : md_cn (md_goes w q x) = md_cn x := by
  obtain ⟨mw, mh, ms, mp, ml, mb, mm, md, mc, mhi, msw, mmi, mhc, ma, mq, mt⟩ := x
  unfold md_goes
  dsimp only
  split
  · rfl
  · rfl
theorem mcn_sits (w q : Nat) (x : MDu) : md_cn (md_sits w q x) = md_cn x := by
  obtain ⟨mw, mh, ms, mp, ml, mb, mm, md, mc, mhi, msw, mmi, mhc, ma, mq, mt⟩ := x
  rfl
theorem mcn_throws (w s q : Nat) (x : MDu) : md_cn (md_throws w s q x) = md_cn x := by
  obtain ⟨mw, mh, ms, mp, ml, mb, mm, md, mc, mhi, msw, mmi, mhc, ma, mq, mt⟩ := x
  unfold md_throws
  dsimp only
  split
  · exact mcn_goes _ _ _
  · split
    · exact (mcn_sits _ _ _).trans (mcn_goes _ _ _)
    · exact mcn_sits _ _ _
theorem mcn_put (w s q : Nat) (x : MDu) : md_cn (md_put w s q x) = md_cn x := by
  obtain ⟨mw, mh, ms, mp, ml, mb, mm, md, mc, mhi, msw, mmi, mhc, ma, mq, mt⟩ := x
  rfl
theorem mcn_leaves (w k : Nat) (x : MDu) : md_cn (md_leaves w k x) = md_cn x := by
  obtain ⟨mw, mh, ms, mp, ml, mb, mm, md, mc, mhi, msw, mmi, mhc, ma, mq, mt⟩ := x
  rfl
theorem mcn_cost (w : Nat) (y : Int32) (x : MDu) : md_cn (md_cost w y x) = md_cn x := by
  obtain ⟨mw, mh, ms, mp, ml, mb, mm, md, mc, mhi, msw, mmi, mhc, ma, mq, mt⟩ := x
  rfl
theorem mcn_acc (w q : Nat) (x : MDu) : md_cn (md_acc w q x) = md_cn x := by
  obtain ⟨mw, mh, ms, mp, ml, mb, mm, md, mc, mhi, msw, mmi, mhc, ma, mq, mt⟩ := x
  unfold md_acc
  dsimp only
  split
  · split
    · exact (mcn_put _ _ _ _).trans (mcn_cost _ _ _)
    · exact (mcn_put _ _ _ _).trans ((mcn_leaves _ _ _).trans (mcn_cost _ _ _))
  · split
    · exact mcn_cost _ _ _
    · split
      · exact (mcn_put _ _ _ _).trans ((mcn_throws _ _ _ _).trans (mcn_cost _ _ _))
      · exact (mcn_put _ _ _ _).trans ((mcn_sits _ _ _).trans ((mcn_leaves _ _ _).trans (mcn_cost _ _ _)))
theorem mcn_tell (v : Nat) (x : MDu) : md_cn (md_tell v x) = ((md_cn x).1 + (if v = 0 then 1 else 0), (md_cn x).2.1 + (if v = 1 then 1 else 0), (md_cn x).2.2 + (if v = 2 then 1 else 0)) := by
  obtain ⟨mw, mh, ms, mp, ml, mb, mm, md, mc, mhi, msw, mmi, mhc, ma, mq, mt⟩ := x
  rfl
theorem what_parts {wr hm : Nat → Int32} {c0 : Int32} {w : Nat} {sc : Nat} {pl : Nat} {ln : Nat → Option Nat} {bn : Nat → Nat} {n : Nat} {dt : Nat → Bool} {hi : Int32} {sw : Int32} {mi : Int32} {hc : Int32} {co : Int32} {x : MDu} {q : Nat} (hk : Ok 256 (sc, pl, ln, bn, n, dt, hi, sw, mi, hc, co)) (h : RX w c0 wr hm (sc, pl, ln, bn, n, dt, hi, sw, mi, hc, co) x) : md_what w q x = if ln (q % sc) = some q then 0 else match fnd (fun k => decide (bn k = q)) n with
    | none => 2
    | some _ => 1 := by
  obtain ⟨mw, mh, ms, mp, ml, mb, mm, md, mc, mhi, msw, mmi, mhc, ma, mq, mt⟩ := x
  obtain ⟨p1, p2⟩ := acc_parts (q := q) hk h
  unfold md_what
  dsimp only
  rw [p1, p2]
  split
  · rfl
  · cases fnd (fun k => decide (bn k = q)) n with
    | none => rfl
    | some k => rfl
theorem cn_acc {wr hm : Nat → Int32} {c0 : Int32} {u : CBu} {x : MDu} {q : Nat} {b : Bool} (hk : Ok 256 u) (h : RX 0 c0 wr hm u x) (hcn : md_cn x = cb_cn u) : md_cn (md_tell (md_what 0 q x) (md_acc 0 q x)) = cb_cn (cb_acc q b u) := by
  rw [mcn_tell, mcn_acc, hcn]
  obtain ⟨sc, pl, ln, bn, n, dt, hi, sw, mi, hc, co⟩ := u
  rw [what_parts hk h]
  unfold cb_acc
  show ((hi + _, sw + _, mi + _) : Int32 × Int32 × Int32) = cb_cn (if ln (q % sc) = some q then cb_hit q b (sc, pl, ln, bn, n, dt, hi, sw, mi, hc, co) else match fnd (fun k => decide (bn k = q)) n with
    | none => cb_put (q % sc) q b (cb_throw (q % sc) (cb_missed (sc, pl, ln, bn, n, dt, hi, sw, mi, hc, co)))
    | some k => cb_put (q % sc) q b (cb_throw (q % sc) (cb_leave k (cb_swapped (sc, pl, ln, bn, n, dt, hi, sw, mi, hc, co)))))
  have z : ∀ y : Int32, y + 0 = y := fun y => Int32.add_zero y
  by_cases hl : ln (q % sc) = some q
  · rw [if_pos hl, if_pos hl]
    show ((hi + 1, sw + 0, mi + 0) : Int32 × Int32 × Int32) = (hi + 1, sw, mi)
    rw [z, z]
  · rw [if_neg hl, if_neg hl]
    cases fnd (fun k => decide (bn k = q)) n with
    | none =>
      dsimp only
      rw [cn_put, cn_throw]
      show ((hi + 0, sw + 0, mi + 1) : Int32 × Int32 × Int32) = (hi, sw, mi + 1)
      rw [z, z]
    | some k =>
      dsimp only
      rw [cn_put, cn_throw]
      show ((hi + 0, sw + 1, mi + 0) : Int32 × Int32 × Int32) = (hi, sw + 1, mi)
      rw [z, z]
/-- the line itself is as clean or dirty as it was -/
theorem dt_throw {q s : Nat} {u : CBu} (h : Ok q u) : cb_dt (cb_throw s u) q = cb_dt u q := by
  obtain ⟨sc, pl, ln, bn, n, dt, hi, sw, mi, hc, co⟩ := u
  obtain ⟨a1, a2, a3, a4, a5, a6, a7⟩ := h
  unfold cb_throw
  dsimp only
  split
  · rfl
  · rename_i r hs
    have hr := (a4 _ _ hs).2.2.2
    split
    · exact ru_n dt false (fun e => hr e.symm)
    · split
      · have hb := (a5 0 (by omega)).2.1
        exact ru_n dt false (fun e => hb e.symm)
      · rfl
theorem dt_put (s q j : Nat) (u : CBu) : cb_dt (cb_put s q false u) j = cb_dt u j := by
  obtain ⟨sc, pl, ln, bn, n, dt, hi, sw, mi, hc, co⟩ := u
  rfl
theorem dt_acc {q : Nat} {u : CBu} (h : Ok 256 u) : cb_dt (cb_acc q false u) q = cb_dt u q := by
  obtain ⟨sc, pl, ln, bn, n, dt, hi, sw, mi, hc, co⟩ := u
  unfold cb_acc
  split
  · rfl
  · rename_i hln
    have hln : ln (q % sc) ≠ some q := hln
    split
    · rename_i hs
      have hs : fnd (fun k => decide (bn k = q)) n = none := hs
      have h1 : Ok q (cb_missed (sc, pl, ln, bn, n, dt, hi, sw, mi, hc, co)) := ok_in (q := q) h hln (fun k hk e => by have := fnd_of_none hs k hk; simp [e] at this)
      rw [dt_put, dt_throw h1]
      rfl
    · rename_i k hs
      have hs : fnd (fun k => decide (bn k = q)) n = some k := hs
      obtain ⟨hk, hb, -⟩ := fnd_of_some hs
      have h1 : Ok q (cb_leave k (cb_swapped (sc, pl, ln, bn, n, dt, hi, sw, mi, hc, co))) := ok_leave (k := k) h hk (of_decide_eq_true hb)
      rw [dt_put, dt_throw h1]
      rfl
theorem rw_mark {w : Nat} {c0 : Int32} {u : CBu} {x : MDu} {q : Nat} (b : Bool) (h : RW w c0 u x) : RW w c0 (cb_mark q b u) (md_mark (256 * w + q) b x) := by
  obtain ⟨sc, pl, ln, bn, n, dt, hi, sw, mi, hc, co⟩ := u
  obtain ⟨mw, mh, ms, mp, ml, mb, mm, md, mc, mhi, msw, mmi, mhc, ma, mq, mt⟩ := x
  obtain ⟨r1, r2, r3, r4, r5, r6, r7⟩ := h
  refine ⟨r1, r2, r3, r4, r5, fun j hj => ?_, r7⟩
  cases b
  · exact r6 j hj
  · show ru md (256 * w + q) true (256 * w + j) = ru dt q true j
    unfold ru
    by_cases hjq : j = q
    · rw [if_pos (by omega), if_pos hjq]
    · rw [if_neg (by omega), if_neg hjq, r6 j hj]
theorem rx_wrote {wr hm : Nat → Int32} {c0 v : Int32} {u : CBu} {x : MDu} {a : Nat} {d : Bool} (hd : d = cb_dt u (a / 4)) (h : RX 0 c0 wr hm u x) : RX 0 c0 (ru wr a v) (if d = true then hm else cpy hm wr (a / 4 * 4) (a / 4 * 4 + 4)) (cb_mark (a / 4) true u) (md_set a v (md_mark (a / 4) true x)) := by
  have h1 := rw_mark (q := a / 4) true h.1
  rw [show 256 * 0 + a / 4 = a / 4 by omega] at h1
  obtain ⟨sc, pl, ln, bn, n, dt, hi, sw, mi, hc, co⟩ := u
  obtain ⟨mw, mh, ms, mp, ml, mb, mm, md, mc, mhi, msw, mmi, mhc, ma, mq, mt⟩ := x
  refine ⟨h1, fun _ => ?_⟩
  obtain ⟨g1, g2, g3⟩ := h.2 rfl
  have hd : d = dt (a / 4) := hd
  refine ⟨?_, g2, fun i hi => ?_⟩
  · show ru mw a v = ru wr a v
    rw [g1]
  · show mh i = if ru dt (a / 4) true (i / 4) = true then (if d = true then hm else cpy hm wr (a / 4 * 4) (a / 4 * 4 + 4)) i else ru wr a v i
    have g := g3 i hi
    by_cases hq : i / 4 = a / 4
    · rw [show ru dt (a / 4) true (i / 4) = true by rw [hq, ru_s], if_pos rfl]
      rw [hq, ← hd] at g
      cases d
      · rw [if_neg Bool.false_ne_true] at g ⊢
        show _ = if a / 4 * 4 ≤ i ∧ i < a / 4 * 4 + 4 then wr i else hm i
        rw [if_pos (by omega)]
        exact g
      · rw [if_pos rfl] at g ⊢
        exact g
    · rw [ru_n _ _ hq, ru_n _ _ (show i ≠ a by intro e; rw [e] at hq; exact hq rfl)]
      rw [g]
      cases d
      · rw [if_neg Bool.false_ne_true]
        show _ = if _ then (if a / 4 * 4 ≤ i ∧ i < a / 4 * 4 + 4 then wr i else hm i) else _
        rw [if_neg (show ¬ (a / 4 * 4 ≤ i ∧ i < a / 4 * 4 + 4) by omega)]
      · rw [if_pos rfl]
def RLa : LAu → MDu → Prop := fun (ll, lw, lc, lx) (mw, mh, ms, mp, ml, mb, mm, md, mc, mhi, msw, mmi, mhc, ma, mq, mt) => mq = lc ∧ (∀ k, k < lc → ma k = 2 * ll (la_slot k (ll, lw, lc, lx)) + (if lw (la_slot k (ll, lw, lc, lx)) then 1 else 0)) ∧ (lc < 150 → lx = lc)
theorem rl_note {la : LAu} {x : MDu} {q : Nat} {b : Bool} (hb : la_bd la) (h : RLa la x) : RLa (la_add q b la) (md_note (2 * q + (if b then 1 else 0)) x) := by
  obtain ⟨ll, lw, lc, lx⟩ := la
  obtain ⟨mw, mh, ms, mp, ml, mb, mm, md, mc, mhi, msw, mmi, mhc, ma, mq, mt⟩ := x
  obtain ⟨h1, h2, h3⟩ := hb
  obtain ⟨r1, r2, r3⟩ := h
  unfold md_note
  dsimp only
  subst r1
  by_cases hq : mq = 150
  · rw [if_pos hq]
    subst hq
    refine ⟨rfl, fun k hk => ?_, fun hk => absurd hk (by decide)⟩
    show ru (shl ma 0 149) 149 (2 * q + (if b then 1 else 0)) k = 2 * ru ll lx q (((if (150 : Nat) < 150 then 0 else (if lx + 1 < 150 then lx + 1 else 0)) + k) % 150) + (if ru lw lx b (((if (150 : Nat) < 150 then 0 else (if lx + 1 < 150 then lx + 1 else 0)) + k) % 150) then 1 else 0)
    have hk : k < 150 := hk
    rw [if_neg (show ¬ (150 : Nat) < 150 by decide)]
    have e : ((if lx + 1 < 150 then lx + 1 else 0) + k) % 150 = (lx + (k + 1)) % 150 := by
      split
      · congr 1; omega
      · omega
    rw [e]
    unfold ru shl
    by_cases hk9 : k = 149
    · rw [if_pos hk9, if_pos (show (lx + (k + 1)) % 150 = lx by omega), if_pos (show (lx + (k + 1)) % 150 = lx by omega)]
    · rw [if_neg hk9, if_pos (by omega), if_neg (show (lx + (k + 1)) % 150 ≠ lx by omega), if_neg (show (lx + (k + 1)) % 150 ≠ lx by omega)]
      have := r2 (k + 1) (by omega)
      exact this
  · rw [if_neg hq]
    have hlt : mq < 150 := by omega
    have hx := r3 hlt
    have e1 : (if mq < 150 then mq + 1 else mq) = mq + 1 := if_pos hlt
    have e2 : ∀ k, k < mq + 1 → ((if mq + 1 < 150 then 0 else (if lx + 1 < 150 then lx + 1 else 0)) + k) % 150 = k := by
      intro k hk
      split
      · omega
      · rw [if_neg (by omega)]; omega
    refine ⟨e1.symm, fun k hk => ?_, fun hk => ?_⟩
    · have hk : k < (if mq < 150 then mq + 1 else mq) := hk
      rw [e1] at hk
      show ru ma mq (2 * q + (if b then 1 else 0)) k = 2 * ru ll lx q (((if (if mq < 150 then mq + 1 else mq) < 150 then 0 else (if lx + 1 < 150 then lx + 1 else 0)) + k) % 150) + (if ru lw lx b (((if (if mq < 150 then mq + 1 else mq) < 150 then 0 else (if lx + 1 < 150 then lx + 1 else 0)) + k) % 150) then 1 else 0)
      rw [e1, e2 k hk]
      unfold ru
      by_cases hk2 : k = mq
      · rw [if_pos hk2, if_pos (show k = lx by omega), if_pos (show k = lx by omega)]
      · rw [if_neg hk2, if_neg (show ¬ k = lx by omega), if_neg (show ¬ k = lx by omega)]
        have := r2 k (by omega)
        rw [this]
        show 2 * ll (((if mq < 150 then 0 else lx) + k) % 150) + (if lw (((if mq < 150 then 0 else lx) + k) % 150) then 1 else 0) = _
        rw [if_pos hlt, show (0 + k) % 150 = k by omega]
    · have hk : (if mq < 150 then mq + 1 else mq) < 150 := hk
      rw [e1] at hk
      show (if lx + 1 < 150 then lx + 1 else 0) = if mq < 150 then mq + 1 else mq
      rw [e1, if_pos (by omega)]
      omega
theorem rl_of {la : LAu} {x y : MDu} (h1 : md_asked y = md_asked x) (h2 : md_many y = md_many x) (h : RLa la x) : RLa la y := by
  obtain ⟨ll, lw, lc, lx⟩ := la
  obtain ⟨mw, mh, ms, mp, ml, mb, mm, md, mc, mhi, msw, mmi, mhc, ma, mq, mt⟩ := x
  obtain ⟨mw1, mh1, ms1, mp1, ml1, mb1, mm1, md1, mc1, mhi1, msw1, mmi1, mhc1, ma1, mq1, mt1⟩ := y
  have h1 : ma1 = ma := h1
  have h2 : mq1 = mq := h2
  subst h1; subst h2
  exact h
/-! one access of both -/
def SimS (wr hm : Nat → Int32) (u : CBu) (la : LAu) (x : MDu) : Prop := Ok 256 u ∧ RX 0 0 wr hm u x ∧ md_cn x = cb_cn u ∧ RLa la x ∧ la_bd la ∧ md_abd x
theorem rx_ma {wr hm : Nat → Int32} {c0 : Int32} {w : Nat} {sc : Nat} {pl : Nat} {ln : Nat → Option Nat} {bn : Nat → Nat} {n : Nat} {dt : Nat → Bool} {hi : Int32} {sw : Int32} {mi : Int32} {hc : Int32} {co : Int32} {mw : Nat → Int32} {mh : Nat → Int32} {ms : Nat → Nat} {mp : Nat → Nat} {ml : Nat → Option Nat} {mb : Nat → Nat} {mm : Nat → Nat} {md : Nat → Bool} {mc : Nat → Int32} {mhi : Int32} {msw : Int32} {mmi : Int32} {mhc : Int32} {ma : Nat → Nat} {mq : Nat} {mt : Nat} (f : Nat → Nat) (k : Nat) (h : RX w c0 wr hm (sc, pl, ln, bn, n, dt, hi, sw, mi, hc, co) (mw, mh, ms, mp, ml, mb, mm, md, mc, mhi, msw, mmi, mhc, ma, mq, mt)) : RX w c0 wr hm (sc, pl, ln, bn, n, dt, hi, sw, mi, hc, co) (mw, mh, ms, mp, ml, mb, mm, md, mc, mhi, msw, mmi, mhc, f, k, mt) := by
  obtain ⟨⟨r1, r2, r3, r4, r5, r6, r7⟩, r8⟩ := h
  exact ⟨⟨r1, r2, r3, r4, r5, r6, r7⟩, r8⟩
theorem rx_note {wr hm : Nat → Int32} {c0 : Int32} {w y : Nat} {u : CBu} {x : MDu} (h : RX w c0 wr hm u x) : RX w c0 wr hm u (md_note y x) := by
  obtain ⟨sc, pl, ln, bn, n, dt, hi, sw, mi, hc, co⟩ := u
  obtain ⟨mw, mh, ms, mp, ml, mb, mm, md, mc, mhi, msw, mmi, mhc, ma, mq, mt⟩ := x
  have e : md_note y (mw, mh, ms, mp, ml, mb, mm, md, mc, mhi, msw, mmi, mhc, ma, mq, mt) = if mq = 150 then (mw, mh, ms, mp, ml, mb, mm, md, mc, mhi, msw, mmi, mhc, ru (shl ma 0 149) 149 y, 150, mt) else (mw, mh, ms, mp, ml, mb, mm, md, mc, mhi, msw, mmi, mhc, ru ma mq y, mq + 1, mt) := rfl
  rw [e]
  by_cases hq : mq = 150
  · rw [if_pos hq]
    exact rx_ma _ _ h
  · rw [if_neg hq]
    exact rx_ma _ _ h
theorem cn_note (y : Nat) (x : MDu) : md_cn (md_note y x) = md_cn x := by
  obtain ⟨mw, mh, ms, mp, ml, mb, mm, md, mc, mhi, msw, mmi, mhc, ma, mq, mt⟩ := x
  unfold md_note
  dsimp only
  show _ = ((mhi, msw, mmi) : Int32 × Int32 × Int32)
  split
  · show ((mhi, msw, mmi) : Int32 × Int32 × Int32) = _
    rfl
  · show ((mhi, msw, mmi) : Int32 × Int32 × Int32) = _
    rfl
theorem cn_mark (q : Nat) (b : Bool) (u : CBu) : cb_cn (cb_mark q b u) = cb_cn u := by
  obtain ⟨sc, pl, ln, bn, n, dt, hi, sw, mi, hc, co⟩ := u
  rfl
theorem sim_askf {wr hm : Nat → Int32} {u : CBu} {la : LAu} {x : MDu} {q : Nat} (hq : q < 256) (h : SimS wr hm u la x) : SimS wr hm (cb_acc q false u) (la_add q false la) (md_ask q false x) := by
  obtain ⟨h1, h2, h3, h4, h5, h6⟩ := h
  have e := md_acc_asked (x := x) (w := 0) (q := q)
  refine ⟨ok_acc h1 hq, rx_note ?_, ?_, rl_note h5 ?_, la_bd_add false hq h5, md_abd_ask false hq h6⟩
  · have h7 := rx_acc (q := q) h1 hq h2
    generalize cb_acc q false u = u' at h7 ⊢
    generalize md_acc 0 q x = x' at h7 ⊢
    obtain ⟨sc, pl, ln, bn, n, dt, hi, sw, mi, hc, co⟩ := u'
    obtain ⟨mw, mh, ms, mp, ml, mb, mm, md, mc, mhi, msw, mmi, mhc, ma, mq, mt⟩ := x'
    exact h7
  · show md_cn (md_note _ _) = _
    rw [cn_note]
    exact cn_acc (b := false) h1 h2 h3
  · exact rl_of (x := x) e.1 e.2 h4
theorem rx_setnote {wr hm : Nat → Int32} {c0 v : Int32} {a y : Nat} {u : CBu} {x : MDu} (h : RX 0 c0 wr hm u (md_set a v x)) : RX 0 c0 wr hm u (md_set a v (md_note y x)) := by
  obtain ⟨sc, pl, ln, bn, n, dt, hi, sw, mi, hc, co⟩ := u
  obtain ⟨mw, mh, ms, mp, ml, mb, mm, md, mc, mhi, msw, mmi, mhc, ma, mq, mt⟩ := x
  have e : md_note y (mw, mh, ms, mp, ml, mb, mm, md, mc, mhi, msw, mmi, mhc, ma, mq, mt) = if mq = 150 then (mw, mh, ms, mp, ml, mb, mm, md, mc, mhi, msw, mmi, mhc, ru (shl ma 0 149) 149 y, 150, mt) else (mw, mh, ms, mp, ml, mb, mm, md, mc, mhi, msw, mmi, mhc, ru ma mq y, mq + 1, mt) := rfl
  rw [e]
  by_cases hq : mq = 150
  · rw [if_pos hq]
    exact rx_ma (ru (shl ma 0 149) 149 y) 150 h
  · rw [if_neg hq]
    exact rx_ma (ru ma mq y) (mq + 1) h
theorem rx_settell {wr hm : Nat → Int32} {c0 v : Int32} {a q y : Nat} {b : Bool} {u : CBu} {x : MDu} (h : RX 0 c0 wr hm u (md_set a v (md_mark q b x))) : RX 0 c0 wr hm u (md_set a v (md_mark q b (md_tell y x))) := by
  obtain ⟨sc, pl, ln, bn, n, dt, hi, sw, mi, hc, co⟩ := u
  obtain ⟨mw, mh, ms, mp, ml, mb, mm, md, mc, mhi, msw, mmi, mhc, ma, mq, mt⟩ := x
  obtain ⟨⟨r1, r2, r3, r4, r5, r6, r7⟩, r8⟩ := h
  exact ⟨⟨r1, r2, r3, r4, r5, r6, r7⟩, r8⟩
theorem mcn_set (a : Nat) (v : Int32) (x : MDu) : md_cn (md_set a v x) = md_cn x := by
  obtain ⟨mw, mh, ms, mp, ml, mb, mm, md, mc, mhi, msw, mmi, mhc, ma, mq, mt⟩ := x
  rfl
theorem mcn_mark (q : Nat) (b : Bool) (x : MDu) : md_cn (md_mark q b x) = md_cn x := by
  obtain ⟨mw, mh, ms, mp, ml, mb, mm, md, mc, mhi, msw, mmi, mhc, ma, mq, mt⟩ := x
  rfl
theorem sim_write {wr hm : Nat → Int32} {u : CBu} {la : LAu} {x : MDu} {a : Nat} {v : Int32} (ha : a < 1024) (h : SimS wr hm u la x) : SimS (ru wr a v) (if cb_dt u (a / 4) = true then hm else cpy hm wr (a / 4 * 4) (a / 4 * 4 + 4)) (cb_acc (a / 4) true u) (la_add (a / 4) true la) (md_set a v (md_ask (a / 4) true x)) := by
  obtain ⟨h1, h2, h3, h4, h5, h6⟩ := h
  have e := md_acc_asked (x := x) (w := 0) (q := a / 4)
  have hq : a / 4 < 256 := by omega
  refine ⟨ok_acc h1 hq, ?_, ?_, ?_, la_bd_add true hq h5, ?_⟩
  · have h7 := rx_wrote (v := v) (dt_acc (q := a / 4) h1).symm (rx_acc (q := a / 4) h1 hq h2)
    rw [acc_mark]
    unfold md_ask
    exact rx_setnote (rx_settell h7)
  · rw [mcn_set]
    unfold md_ask
    rw [cn_note, mcn_mark]
    exact cn_acc (b := true) h1 h2 h3
  · have := rl_note (q := a / 4) (b := true) h5 (rl_of (x := x) (y := md_mark (a / 4) true (md_tell (md_what 0 (a / 4) x) (md_acc 0 (a / 4) x))) e.1 e.2 h4)
    exact rl_of (y := md_set a v (md_ask (a / 4) true x)) rfl rfl this
  · exact md_abd_of (y := md_set a v (md_ask (a / 4) true x)) rfl rfl (md_abd_ask true hq h6)

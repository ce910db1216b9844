/-! program and reference, step by step, world w -/
theorem rx_cost {w : Nat} {c0 : Int32} {wr hm : Nat → Int32} {sc : Nat} {pl : Nat} {ln : Nat → Option Nat} {bn : Nat → Nat} {n : Nat} {dt : Nat → Bool} {hi : Int32} {sw : Int32} {mi : Int32} {hc : Int32} {co : Int32} {mw : Nat → Int32} {mh : Nat → Int32} {ms : Nat → Nat} {mp : Nat → Nat} {ml : Nat → Option Nat} {mb : Nat → Nat} {mm : Nat → Nat} {md : Nat → Bool} {mc : Nat → Int32} {mhi : Int32} {msw : Int32} {mmi : Int32} {mhc : Int32} {ma : Nat → Nat} {mq : Nat} {mt : Nat} (x : Int32) (a b c : Int32) (h : RX w c0 wr hm (sc, pl, ln, bn, n, dt, hi, sw, mi, hc, co) (mw, mh, ms, mp, ml, mb, mm, md, mc, mhi, msw, mmi, mhc, ma, mq, mt)) : RX w c0 wr hm (sc, pl, ln, bn, n, dt, a, b, c, hc, co+x) (md_cost w x (mw, mh, ms, mp, ml, mb, mm, md, mc, mhi, msw, mmi, mhc, ma, mq, mt)) := by
  obtain ⟨⟨r1, r2, r3, r4, r5, r6, r7⟩, r8⟩ := h
  refine ⟨⟨r1, r2, r3, r4, r5, r6, ?_⟩, r8⟩
  show co + x = c0 + ru mc w (mc w + x) w
  rw [ru_s, r7, Int32.add_assoc]
theorem rx_ln {w : Nat} {c0 : Int32} {wr hm : Nat → Int32} {sc : Nat} {pl : Nat} {ln : Nat → Option Nat} {bn : Nat → Nat} {n : Nat} {dt : Nat → Bool} {hi : Int32} {sw : Int32} {mi : Int32} {hc : Int32} {co : Int32} {mw : Nat → Int32} {mh : Nat → Int32} {ms : Nat → Nat} {mp : Nat → Nat} {ml : Nat → Option Nat} {mb : Nat → Nat} {mm : Nat → Nat} {md : Nat → Bool} {mc : Nat → Int32} {mhi : Int32} {msw : Int32} {mmi : Int32} {mhc : Int32} {ma : Nat → Nat} {mq : Nat} {mt : Nat} (s : Nat) (o : Option Nat) (h : RX w c0 wr hm (sc, pl, ln, bn, n, dt, hi, sw, mi, hc, co) (mw, mh, ms, mp, ml, mb, mm, md, mc, mhi, msw, mmi, mhc, ma, mq, mt)) : RX w c0 wr hm (sc, pl, ru ln s o, bn, n, dt, hi, sw, mi, hc, co) (mw, mh, ms, mp, ru ml (16 * w + s) o, mb, mm, md, mc, mhi, msw, mmi, mhc, ma, mq, mt) := by
  obtain ⟨⟨r1, r2, r3, r4, r5, r6, r7⟩, r8⟩ := h
  refine ⟨⟨r1, r2, fun t ht => ?_, r4, r5, r6, r7⟩, r8⟩
  show ru ml (16 * w + s) o (16 * w + t) = ru ln s o t
  unfold ru
  by_cases hts : t = s
  · rw [if_pos (by omega), if_pos hts]
  · rw [if_neg (by omega), if_neg hts, r3 t ht]
theorem rx_bh {w : Nat} {c0 : Int32} {wr hm : Nat → Int32} {u : CBu} {x : MDu} {q : Nat} (hq : q < 256) (h : RX w c0 wr hm u x) : RX w c0 wr hm (cb_bh q u) (md_goes w q x) := by
  obtain ⟨sc, pl, ln, bn, n, dt, hi, sw, mi, hc, co⟩ := u
  obtain ⟨mw, mh, ms, mp, ml, mb, mm, md, mc, mhi, msw, mmi, mhc, ma, mq, mt⟩ := x
  obtain ⟨⟨r1, r2, r3, r4, r5, r6, r7⟩, r8⟩ := h
  unfold md_goes
  dsimp only
  have e := r6 q hq
  split
  · rename_i hd
    rw [e] at hd
    refine ⟨⟨r1, r2, r3, r4, r5, fun j hj => ?_, ?_⟩, fun hw => ?_⟩
    · show ru md (256 * w + q) false (256 * w + j) = ru dt q false j
      unfold ru
      by_cases hjq : j = q
      · rw [if_pos (by omega), if_pos hjq]
      · rw [if_neg (by omega), if_neg hjq, r6 j hj]
    · show co + cI (dt q) 10 = c0 + ru mc w (mc w + 10) w
      rw [ru_s, r7, Int32.add_assoc, hd]
      rfl
    · obtain ⟨g1, g2, g3⟩ := r8 hw
      subst hw
      refine ⟨g1, ?_, fun a ha => ?_⟩
      · show mhc + 1 = hc + cI (dt q) 1
        rw [hd, g2]
        rfl
      · show cpy mh mw (4 * q) (4 * q + 4) a = if ru dt q false (a / 4) = true then hm a else wr a
        unfold cpy ru
        by_cases haq : a / 4 = q
        · rw [if_pos (by omega), if_pos haq, if_neg (by decide), g1]
        · rw [if_neg (by omega), if_neg haq]
          exact g3 a ha
  · rename_i hd
    rw [e] at hd
    have hd : dt q = false := Bool.eq_false_iff.mpr hd
    have hf : ∀ {α : Type} (f : Nat → α) (v : α), f q = v → ru f q v = f := fun f v hv => ru_id hv
    unfold cb_bh
    dsimp only
    rw [hf dt false hd, hd]
    refine ⟨⟨r1, r2, r3, r4, r5, r6, ?_⟩, fun hw => ?_⟩
    · show co + 0 = c0 + mc w
      rw [Int32.add_zero, r7]
    · obtain ⟨g1, g2, g3⟩ := r8 hw
      refine ⟨g1, ?_, g3⟩
      show mhc = hc + 0
      rw [Int32.add_zero, g2]
theorem rx_sit {w : Nat} {c0 : Int32} {wr hm : Nat → Int32} {u : CBu} {x : MDu} {q : Nat} (h : RX w c0 wr hm u x) : RX w c0 wr hm (cb_sit q u) (md_sits w q x) := by
  obtain ⟨sc, pl, ln, bn, n, dt, hi, sw, mi, hc, co⟩ := u
  obtain ⟨mw, mh, ms, mp, ml, mb, mm, md, mc, mhi, msw, mmi, mhc, ma, mq, mt⟩ := x
  obtain ⟨⟨r1, r2, r3, r4, r5, r6, r7⟩, r8⟩ := h
  refine ⟨⟨r1, r2, r3, ?_, fun k hk => ?_, r6, r7⟩, r8⟩
  · show ru mm w (mm w + 1) w = n + 1
    rw [ru_s, r4]
  · have hk : k < n + 1 := hk
    show ru (shr mb (8 * w) (8 * w + mm w)) (8 * w) q (8 * w + k) = ru bn n q (n + 1 - 1 - k)
    unfold ru shr
    by_cases hk0 : k = 0
    · rw [if_pos (by omega), if_pos (by omega)]
    · rw [if_neg (by omega), if_pos (by omega), if_neg (by omega), show 8 * w + k - 1 = 8 * w + (k - 1) by omega, r5 (k - 1) (by omega)]
      congr 1
      omega
theorem rx_leave {w : Nat} {c0 : Int32} {wr hm : Nat → Int32} {u : CBu} {x : MDu} {k m : Nat} (hk : k < u.2.2.2.2.1) (hmk : m = u.2.2.2.2.1 - 1 - k) (h : RX w c0 wr hm u x) : RX w c0 wr hm (cb_leave k u) (md_leaves w m x) := by
  obtain ⟨sc, pl, ln, bn, n, dt, hi, sw, mi, hc, co⟩ := u
  obtain ⟨mw, mh, ms, mp, ml, mb, mm, md, mc, mhi, msw, mmi, mhc, ma, mq, mt⟩ := x
  obtain ⟨⟨r1, r2, r3, r4, r5, r6, r7⟩, r8⟩ := h
  have hk : k < n := hk
  have hmk : m = n - 1 - k := hmk
  refine ⟨⟨r1, r2, r3, ?_, fun i hi => ?_, r6, r7⟩, r8⟩
  · show ru mm w (mm w - 1) w = n - 1
    rw [ru_s, r4]
  · have hi : i < n - 1 := hi
    show shl mb (8 * w + m) (8 * w + (mm w - 1)) (8 * w + i) = shl bn k (n - 1) (n - 1 - 1 - i)
    unfold shl
    rw [r4]
    by_cases him : m ≤ i
    · rw [if_pos (by omega), if_neg (by omega), show 8 * w + i + 1 = 8 * w + (i + 1) by omega, r5 (i + 1) (by omega)]
      congr 1
      omega
    · rw [if_neg (by omega), if_pos (by omega), r5 i (by omega)]
      congr 1
      omega
theorem rx_dec {w : Nat} {c0 : Int32} {wr hm : Nat → Int32} {sc : Nat} {pl : Nat} {ln : Nat → Option Nat} {bn : Nat → Nat} {n : Nat} {dt : Nat → Bool} {hi : Int32} {sw : Int32} {mi : Int32} {hc : Int32} {co : Int32} {mw : Nat → Int32} {mh : Nat → Int32} {ms : Nat → Nat} {mp : Nat → Nat} {ml : Nat → Option Nat} {mb : Nat → Nat} {mm : Nat → Nat} {md : Nat → Bool} {mc : Nat → Int32} {mhi : Int32} {msw : Int32} {mmi : Int32} {mhc : Int32} {ma : Nat → Nat} {mq : Nat} {mt : Nat} (hn : 0 < n) (h : RX w c0 wr hm (sc, pl, ln, bn, n, dt, hi, sw, mi, hc, co) (mw, mh, ms, mp, ml, mb, mm, md, mc, mhi, msw, mmi, mhc, ma, mq, mt)) : RX w c0 wr hm (cb_leave 0 (sc, pl, ln, bn, n, dt, hi, sw, mi, hc, co)) (mw, mh, ms, mp, ml, mb, ru mm w (mm w - 1), md, mc, mhi, msw, mmi, mhc, ma, mq, mt) := by
  obtain ⟨⟨r1, r2, r3, r4, r5, r6, r7⟩, r8⟩ := h
  refine ⟨⟨r1, r2, r3, ?_, fun i hi => ?_, r6, r7⟩, r8⟩
  · show ru mm w (mm w - 1) w = n - 1
    rw [ru_s, r4]
  · have hi : i < n - 1 := hi
    show mb (8 * w + i) = shl bn 0 (n - 1) (n - 1 - 1 - i)
    unfold shl
    rw [if_pos (by omega), r5 i (by omega)]
    congr 1
    omega
theorem rx_put {w : Nat} {c0 : Int32} {wr hm : Nat → Int32} {u : CBu} {x : MDu} {s q : Nat} (h : RX w c0 wr hm u x) : RX w c0 wr hm (cb_put s q false u) (md_put w s q x) := by
  obtain ⟨sc, pl, ln, bn, n, dt, hi, sw, mi, hc, co⟩ := u
  obtain ⟨mw, mh, ms, mp, ml, mb, mm, md, mc, mhi, msw, mmi, mhc, ma, mq, mt⟩ := x
  exact rx_ln s (some q) h
/-- put over what stands there is put over nothing -/
theorem put_over (w s q : Nat) (wr hm : Nat → Int32) (c0 : Int32) {sc : Nat} {pl : Nat} {ln : Nat → Option Nat} {bn : Nat → Nat} {n : Nat} {dt : Nat → Bool} {hi : Int32} {sw : Int32} {mi : Int32} {hc : Int32} {co : Int32} {mw : Nat → Int32} {mh : Nat → Int32} {ms : Nat → Nat} {mp : Nat → Nat} {ml : Nat → Option Nat} {mb : Nat → Nat} {mm : Nat → Nat} {md : Nat → Bool} {mc : Nat → Int32} {mhi : Int32} {msw : Int32} {mmi : Int32} {mhc : Int32} {ma : Nat → Nat} {mq : Nat} {mt : Nat} (h : RX w c0 wr hm (sc, pl, ru ln s none, bn, n, dt, hi, sw, mi, hc, co) (mw, mh, ms, mp, ml, mb, mm, md, mc, mhi, msw, mmi, mhc, ma, mq, mt)) : RX w c0 wr hm (cb_put s q false (sc, pl, ru ln s none, bn, n, dt, hi, sw, mi, hc, co)) (md_put w s q (mw, mh, ms, mp, ml, mb, mm, md, mc, mhi, msw, mmi, mhc, ma, mq, mt)) := rx_put h
theorem rx_throw {w : Nat} {c0 : Int32} {wr hm : Nat → Int32} {u : CBu} {x : MDu} {s q : Nat} (hn : u.2.2.2.2.1 ≤ u.2.1) (hb : 0 < u.2.2.2.2.1 → u.2.2.2.1 0 < 256) (hs : cb_ln u s = some q) (hq : q < 256) (h : RX w c0 wr hm u x) : RX w c0 wr hm (cb_throw s u) (md_throws w s q x) := by
  obtain ⟨sc, pl, ln, bn, n, dt, hi, sw, mi, hc, co⟩ := u
  obtain ⟨mw, mh, ms, mp, ml, mb, mm, md, mc, mhi, msw, mmi, mhc, ma, mq, mt⟩ := x
  have hn : n ≤ pl := hn
  have hb : 0 < n → bn 0 < 256 := hb
  have hs : ln s = some q := hs
  have h0 := h
  obtain ⟨⟨r1, r2, r3, r4, r5, r6, r7⟩, r8⟩ := h0
  have h1 := rx_ln s none h
  unfold cb_throw md_throws
  dsimp only
  rw [hs, r2, r4]
  dsimp only
  split
  · exact rx_bh hq h1
  · rename_i hp
    by_cases he : n = pl
    · rw [if_pos (by omega), if_pos he]
      have hn0 : 0 < n := by omega
      have h2 := rx_dec hn0 h1
      rw [r4] at h2
      have e : mb (8 * w + n - 1) = bn 0 := by
        rw [show 8 * w + n - 1 = 8 * w + (n - 1) by omega, r5 _ (by omega)]
        congr 1
        omega
      rw [e]
      have h3 := rx_bh (hb hn0) h2
      exact rx_sit (q := q) h3
    · rw [if_neg (by omega), if_neg he]
      exact rx_sit (q := q) h1
/-- the seat, oldest first there and youngest first here -/
theorem seat_eq {w q n : Nat} {bn mb : Nat → Nat} (r5 : ∀ k, k < n → mb (8 * w + k) = bn (n - 1 - k)) (hu : ∀ i j, i < n → j < n → bn i = bn j → i = j) : fnd (fun k => decide (mb (8 * w + k) = q)) n = (match fnd (fun k => decide (bn k = q)) n with
    | none => none
    | some k => some (n - 1 - k)) := by
  cases hf : fnd (fun k => decide (bn k = q)) n with
  | none =>
    refine fnd_none fun j hj => ?_
    rw [r5 j hj]
    exact fnd_of_none hf (n - 1 - j) (by omega)
  | some k =>
    obtain ⟨hk, hb, -⟩ := fnd_of_some hf
    have hb : bn k = q := of_decide_eq_true hb
    refine fnd_some (by omega) (fun j hj => ?_) ?_
    · rw [r5 j (by omega)]
      refine decide_eq_false fun e => ?_
      have := hu _ k (by omega) hk (e.trans hb.symm)
      omega
    · rw [r5 _ (by omega), show n - 1 - (n - 1 - k) = k by omega]
      exact decide_eq_true hb
/-- what a miss, a swap or a hit is to both -/
theorem acc_parts {w : Nat} {c0 : Int32} {wr hm : Nat → Int32} {sc : Nat} {pl : Nat} {ln : Nat → Option Nat} {bn : Nat → Nat} {n : Nat} {dt : Nat → Bool} {hi : Int32} {sw : Int32} {mi : Int32} {hc : Int32} {co : Int32} {mw : Nat → Int32} {mh : Nat → Int32} {ms : Nat → Nat} {mp : Nat → Nat} {ml : Nat → Option Nat} {mb : Nat → Nat} {mm : Nat → Nat} {md : Nat → Bool} {mc : Nat → Int32} {mhi : Int32} {msw : Int32} {mmi : Int32} {mhc : Int32} {ma : Nat → Nat} {mq : Nat} {mt : Nat} {q : Nat} (hk : Ok 256 (sc, pl, ln, bn, n, dt, hi, sw, mi, hc, co)) (h : RX w c0 wr hm (sc, pl, ln, bn, n, dt, hi, sw, mi, hc, co) (mw, mh, ms, mp, ml, mb, mm, md, mc, mhi, msw, mmi, mhc, ma, mq, mt)) : ml (16 * w + q % ms w) = ln (q % sc) ∧ fnd (fun k => decide (mb (8 * w + k) = q)) (mm w) = (match fnd (fun k => decide (bn k = q)) n with
    | none => none
    | some k => some (n - 1 - k)) := by
  obtain ⟨⟨r1, r2, r3, r4, r5, r6, r7⟩, r8⟩ := h
  obtain ⟨a1, a2, a3, a4, a5, a6, a7⟩ := hk
  refine ⟨?_, ?_⟩
  · rw [r1, r3 _ (mod16 q a1)]
  · rw [r4]
    exact seat_eq r5 a6
theorem rx_acc {w : Nat} {c0 : Int32} {wr hm : Nat → Int32} {u : CBu} {x : MDu} {q : Nat} (hk : Ok 256 u) (hq : q < 256) (h : RX w c0 wr hm u x) : RX w c0 wr hm (cb_acc q false u) (md_acc w q x) := by
  obtain ⟨sc, pl, ln, bn, n, dt, hi, sw, mi, hc, co⟩ := u
  obtain ⟨mw, mh, ms, mp, ml, mb, mm, md, mc, mhi, msw, mmi, mhc, ma, mq, mt⟩ := x
  have hk0 := hk
  obtain ⟨a1, a2, a3, a4, a5, a6, a7⟩ := hk0
  have h0 := h
  obtain ⟨⟨r1, r2, r3, r4, r5, r6, r7⟩, r8⟩ := h0
  obtain ⟨p1, p2⟩ := acc_parts (q := q) hk h
  unfold md_acc cb_acc
  dsimp only
  rw [p1, p2]
  show RX w c0 wr hm (if ln (q % sc) = some q then cb_hit q false (sc, pl, ln, bn, n, dt, hi, sw, mi, hc, co) else match fnd (fun k => decide (bn k = q)) n with
    | none => cb_put (q % sc) q false (cb_throw (q % sc) (cb_missed (sc, pl, ln, bn, n, dt, hi, sw, mi, hc, co)))
    | some k => cb_put (q % sc) q false (cb_throw (q % sc) (cb_leave k (cb_swapped (sc, pl, ln, bn, n, dt, hi, sw, mi, hc, co))))) _
  rw [r1]
  cases hl : ln (q % sc) with
  | none =>
    dsimp only
    rw [if_neg (by intro e; cases e)]
    cases hs : fnd (fun k => decide (bn k = q)) n with
    | none =>
      dsimp only
      have e : cb_throw (q % sc) (cb_missed (sc, pl, ln, bn, n, dt, hi, sw, mi, hc, co)) = cb_missed (sc, pl, ln, bn, n, dt, hi, sw, mi, hc, co) := by
        unfold cb_throw cb_missed
        dsimp only
        rw [hl]
      rw [e]
      exact rx_put (rx_cost 20 hi sw (mi + 1) h)
    | some k =>
      dsimp only
      obtain ⟨hkn, hb, -⟩ := fnd_of_some hs
      have e : cb_throw (q % sc) (cb_leave k (cb_swapped (sc, pl, ln, bn, n, dt, hi, sw, mi, hc, co))) = cb_leave k (cb_swapped (sc, pl, ln, bn, n, dt, hi, sw, mi, hc, co)) := by
        unfold cb_throw cb_leave cb_swapped
        dsimp only
        rw [hl]
      rw [e]
      exact rx_put (rx_leave hkn rfl (rx_cost 3 hi (sw + 1) mi h))
  | some r =>
    dsimp only
    by_cases hrq : r = q
    · rw [if_pos (by rw [hrq]), if_pos hrq]
      exact rx_cost 1 (hi + 1) sw mi h
    · rw [if_neg (fun e => hrq (Option.some.inj e)), if_neg hrq]
      have hr := a4 _ _ hl
      cases hs : fnd (fun k => decide (bn k = q)) n with
      | none =>
        dsimp only
        exact rx_put (rx_throw (u := cb_missed (sc, pl, ln, bn, n, dt, hi, sw, mi, hc, co)) a3 (fun h => (a5 0 h).1) hl hr.2.2.1 (rx_cost 20 hi sw (mi + 1) h))
      | some k =>
        dsimp only
        obtain ⟨hkn, hb, -⟩ := fnd_of_some hs
        have h2 := rx_leave (k := k) (u := cb_swapped (sc, pl, ln, bn, n, dt, hi, sw, mi, hc, co)) hkn rfl (rx_cost 3 hi (sw + 1) mi h)
        have e : cb_throw (q % sc) (cb_leave k (cb_swapped (sc, pl, ln, bn, n, dt, hi, sw, mi, hc, co))) = cb_sit r (sc, pl, ru ln (q % sc) none, shl bn k (n - 1), n - 1, dt, hi, sw + 1, mi, hc, co + 3) := by
          unfold cb_throw cb_leave cb_swapped
          dsimp only
          rw [hl]
          dsimp only
          rw [if_neg (by omega), if_neg (by omega)]
        rw [e]
        have h3 := rx_sit (q := r) h2
        have h4 := rx_ln (q % sc) (some q) h3
        obtain ⟨⟨g1, g2, g3, g4, g5, g6, g7⟩, g8⟩ := h4
        refine ⟨⟨g1, g2, fun t ht => ?_, g4, g5, g6, g7⟩, g8⟩
        rw [show ru (ru ln (q % sc) none) (q % sc) (some q) t = ru ln (q % sc) (some q) t by unfold ru; split <;> rfl]
        exact g3 t ht

/-! walks; bringing home; building; casting -/
theorem sim_steps {wr hm : Nat → Int32} {u : CBu} {la : LAu} {x : MDu} {a : Nat} {z : Int} (ha : a < 1024) (h : SimS wr hm u la x) : ∀ k, SimS wr hm (ob_walk a z k u la).1 (ob_walk a z k u la).2 (md_steps a z k x)
  | 0 => h
  | k + 1 => sim_askf (by have := adr_lt z ha k; omega) (sim_steps ha h k)
theorem rx_thr {w : Nat} {wr hm : Nat → Int32} {c0 : Int32} {u : CBu} {x : MDu} (k : Nat) (h : RX w c0 wr hm u x) : RX w c0 wr hm u (md_thr k x) := by
  obtain ⟨sc, pl, ln, bn, n, dt, hi, sw, mi, hc, co⟩ := u
  obtain ⟨mw, mh, ms, mp, ml, mb, mm, md, mc, mhi, msw, mmi, mhc, ma, mq, mt⟩ := x
  obtain ⟨⟨r1, r2, r3, r4, r5, r6, r7⟩, r8⟩ := h
  exact ⟨⟨r1, r2, r3, r4, r5, r6, r7⟩, r8⟩
theorem mcn_thr (k : Nat) (x : MDu) : md_cn (md_thr k x) = md_cn x := by
  obtain ⟨mw, mh, ms, mp, ml, mb, mm, md, mc, mhi, msw, mmi, mhc, ma, mq, mt⟩ := x
  have e : md_cn (md_thr k (mw, mh, ms, mp, ml, mb, mm, md, mc, mhi, msw, mmi, mhc, ma, mq, mt)) = (mhi, msw, mmi) := rfl
  exact e
theorem mas_thr (k : Nat) (x : MDu) : md_asked (md_thr k x) = md_asked x ∧ md_many (md_thr k x) = md_many x := by
  obtain ⟨mw, mh, ms, mp, ml, mb, mm, md, mc, mhi, msw, mmi, mhc, ma, mq, mt⟩ := x
  have e : md_asked (md_thr k (mw, mh, ms, mp, ml, mb, mm, md, mc, mhi, msw, mmi, mhc, ma, mq, mt)) = ma := rfl
  have e2 : md_many (md_thr k (mw, mh, ms, mp, ml, mb, mm, md, mc, mhi, msw, mmi, mhc, ma, mq, mt)) = mq := rfl
  exact ⟨e, e2⟩
theorem sim_thr {wr hm : Nat → Int32} {u : CBu} {la : LAu} {x : MDu} (k : Nat) (h : SimS wr hm u la x) : SimS wr hm u la (md_thr k x) := by
  obtain ⟨h1, h2, h3, h4, h5, h6⟩ := h
  exact ⟨h1, rx_thr k h2, (mcn_thr k x).trans h3, rl_of (mas_thr k x).1 (mas_thr k x).2 h4, h5, md_abd_thr k h6⟩
/-! counting -/
theorem cnt_ru (p : Nat → Bool) (q : Nat) : ∀ n, cnt (ru p q false) n + (if q < n ∧ p q = true then 1 else 0) = cnt p n
  | 0 => by rw [if_neg (by omega)]; rfl
  | n + 1 => by
    have ih := cnt_ru p q n
    by_cases hq : q = n
    · subst hq
      rw [if_neg (by omega)] at ih
      rw [cnt_n (ru_s p q false)]
      by_cases hp : p q = true
      · rw [if_pos ⟨by omega, hp⟩, cnt_s hp]
        omega
      · rw [if_neg (fun e => hp e.2), cnt_n (Bool.eq_false_iff.mpr hp)]
        omega
    · have e : ru p q false n = p n := ru_n p false (by omega)
      have ed : (q < n + 1 ∧ p q = true) ↔ (q < n ∧ p q = true) := ⟨fun h => ⟨by omega, h.2⟩, fun h => ⟨by omega, h.2⟩⟩
      have ee : (if q < n + 1 ∧ p q = true then 1 else 0) = (if q < n ∧ p q = true then 1 else 0) := by
        by_cases hx : q < n ∧ p q = true
        · rw [if_pos hx, if_pos (ed.mpr hx)]
        · rw [if_neg hx, if_neg (fun e => hx (ed.mp e))]
      rw [ee]
      by_cases hp : p n = true
      · rw [cnt_s (e.trans hp), cnt_s hp]
        omega
      · have hp := Bool.eq_false_iff.mpr hp
        rw [cnt_n (e.trans hp), cnt_n hp]
        omega
theorem cnt_congr {p q : Nat → Bool} : ∀ {n : Nat}, (∀ j, j < n → p j = q j) → cnt p n = cnt q n
  | 0, _ => rfl
  | n + 1, h => by
    unfold cnt
    rw [cnt_congr (n := n) (fun j hj => h j (by omega)), h n (by omega)]
theorem cnt_zero {p : Nat → Bool} : ∀ {n : Nat}, (∀ j, j < n → p j = false) → cnt p n = 0
  | 0, _ => rfl
  | n + 1, h => by rw [cnt_n (h n (by omega)), cnt_zero (fun j hj => h j (by omega))]
/-! all home -/
def BhI (N : Nat) (u0 u : CBu) : Prop := match u0, u with
  | (sc1, pl1, ln1, bn1, n1, dt1, hi1, sw1, mi1, hc1, co1), (sc, pl, ln, bn, n, dt, hi, sw, mi, hc, co) => (sc = sc1 ∧ pl = pl1 ∧ ln = ln1 ∧ bn = bn1 ∧ n = n1 ∧ hi = hi1 ∧ sw = sw1 ∧ mi = mi1) ∧ hc + nI (cnt dt N) = hc1 + nI (cnt dt1 N) ∧ co + nI (10 * cnt dt N) = co1 + nI (10 * cnt dt1 N) ∧ (∀ j, N ≤ j → dt j = dt1 j) ∧ ∀ j, dt j = true → dt1 j = true
theorem bhi_rf (N : Nat) (u : CBu) : BhI N u u := by
  obtain ⟨sc, pl, ln, bn, n, dt, hi, sw, mi, hc, co⟩ := u
  exact ⟨⟨rfl, rfl, rfl, rfl, rfl, rfl, rfl, rfl⟩, rfl, rfl, fun _ _ => rfl, fun _ h => h⟩
theorem bhi_bh {N q : Nat} {u0 u : CBu} (hq : q < N) (h : BhI N u0 u) : BhI N u0 (cb_bh q u) := by
  obtain ⟨sc1, pl1, ln1, bn1, n1, dt1, hi1, sw1, mi1, hc1, co1⟩ := u0
  obtain ⟨sc, pl, ln, bn, n, dt, hi, sw, mi, hc, co⟩ := u
  obtain ⟨h1, h2, h3, h4, h5⟩ := h
  have e := cnt_ru dt q N
  refine ⟨h1, ?_, ?_, fun j hj => ?_, fun j hj => ?_⟩
  · show hc + cI (dt q) 1 + nI (cnt (ru dt q false) N) = hc1 + nI (cnt dt1 N)
    rw [← h2, ← e]
    by_cases hd : dt q = true
    · rw [if_pos ⟨hq, hd⟩, hd, cI_t, Int32.add_assoc, nI_succ, Int32.add_comm 1]
    · rw [if_neg (fun e => hd e.2), Bool.eq_false_iff.mpr hd, cI_f, Int32.add_zero]
      rfl
  · show co + cI (dt q) 10 + nI (10 * cnt (ru dt q false) N) = co1 + nI (10 * cnt dt1 N)
    rw [← h3, ← e]
    by_cases hd : dt q = true
    · rw [if_pos ⟨hq, hd⟩, hd, cI_t, Int32.add_assoc, Nat.mul_add, show 10 * 1 = 10 from rfl, ← nI_add, Int32.add_comm 10]
      rfl
    · rw [if_neg (fun e => hd e.2), Bool.eq_false_iff.mpr hd, cI_f, Int32.add_zero]
      rfl
  · show ru dt q false j = dt1 j
    rw [ru_n _ _ (by omega)]
    exact h4 j hj
  · have hj : ru dt q false j = true := hj
    unfold ru at hj
    split at hj
    · cases hj
    · exact h5 j hj
theorem bh_dt {q j : Nat} {u : CBu} (h : cb_dt (cb_bh q u) j = true) : cb_dt u j = true ∧ j ≠ q := by
  obtain ⟨sc, pl, ln, bn, n, dt, hi, sw, mi, hc, co⟩ := u
  have hj : ru dt q false j = true := h
  unfold ru at hj
  split at hj
  · cases hj
  · rename_i hn
    exact ⟨hj, hn⟩
theorem bhi_end {N : Nat} {u0 u v : CBu} (h : BhI N u0 u) (h2 : BhI N u0 v) (hu : ∀ j, j < N → cb_dt u j = false) (hv : ∀ j, j < N → cb_dt v j = false) : u = v := by
  obtain ⟨sc1, pl1, ln1, bn1, n1, dt1, hi1, sw1, mi1, hc1, co1⟩ := u0
  obtain ⟨sc2, pl2, ln2, bn2, n2, dt2, hi2, sw2, mi2, hc2, co2⟩ := u
  obtain ⟨sc3, pl3, ln3, bn3, n3, dt3, hi3, sw3, mi3, hc3, co3⟩ := v
  obtain ⟨⟨a1, a2, a3, a4, a5, a6, a7, a8⟩, a9, a10, a11, a12⟩ := h
  obtain ⟨⟨b1, b2, b3, b4, b5, b6, b7, b8⟩, b9, b10, b11, b12⟩ := h2
  have e : dt2 = dt3 := by
    funext j
    by_cases hj : j < N
    · exact (hu j hj).trans (hv j hj).symm
    · exact (a11 j (by omega)).trans (b11 j (by omega)).symm
  have z2 : cnt dt2 N = 0 := cnt_zero hu
  have z3 : cnt dt3 N = 0 := cnt_zero hv
  rw [z2] at a9 a10
  rw [z3] at b9 b10
  have hn0 : ∀ y : Int32, y + nI 0 = y := fun y => Int32.add_zero y
  rw [hn0] at a9 b9
  rw [Nat.mul_zero, hn0] at a10 b10
  subst e
  rw [a1, a2, a3, a4, a5, a6, a7, a8, a9, a10, b1, b2, b3, b4, b5, b6, b7, b8, b9, b10]
def cb_bhA (i : Nat) (u : CBu) : CBu := match i with
  | 0 => u
  | i + 1 => cb_bh i (cb_bhA i u)
theorem bhi_A {N : Nat} {u : CBu} : ∀ i, i ≤ N → BhI N u (cb_bhA i u) ∧ ∀ j, j < i → cb_dt (cb_bhA i u) j = false
  | 0, _ => ⟨bhi_rf N u, fun j hj => absurd hj (Nat.not_lt_zero j)⟩
  | i + 1, h => by
    obtain ⟨h1, h2⟩ := bhi_A (N := N) (u := u) i (by omega)
    refine ⟨bhi_bh (by omega) h1, fun j hj => ?_⟩
    cases hd : cb_dt (cb_bhA (i + 1) u) j with
    | false => rfl
    | true =>
      obtain ⟨e1, e2⟩ := bh_dt hd
      rw [h2 j (by omega)] at e1
      cases e1
theorem bhi_S {N : Nat} {u : CBu} (hN : ∀ s q, cb_ln u s = some q → q < N) : ∀ i, BhI N u (cb_bhS i u) ∧ (∀ s q, s < i → cb_ln u s = some q → cb_dt (cb_bhS i u) q = false) ∧ ∀ j, cb_dt (cb_bhS i u) j = true → cb_dt u j = true
  | 0 => ⟨bhi_rf N u, fun s q hs => absurd hs (Nat.not_lt_zero s), fun j h => h⟩
  | i + 1 => by
    obtain ⟨h1, h2, h3⟩ := bhi_S hN i
    unfold cb_bhS
    cases hl : cb_ln u i with
    | none =>
      dsimp only
      refine ⟨h1, fun s q hs hq => ?_, h3⟩
      have hsi : s ≠ i := by
        intro e
        rw [e, hl] at hq
        cases hq
      exact h2 s q (by omega) hq
    | some r =>
      dsimp only
      refine ⟨bhi_bh (hN i r hl) h1, fun s q hs hq => ?_, fun j hj => h3 j (bh_dt hj).1⟩
      cases hd : cb_dt (cb_bh r (cb_bhS i u)) q with
      | false => rfl
      | true =>
        obtain ⟨e1, e2⟩ := bh_dt hd
        have hsi : s ≠ i := by
          intro e
          rw [e, hl] at hq
          exact e2 (Option.some.inj hq).symm
        rw [h2 s q (by omega) hq] at e1
        cases e1
theorem bhi_B {N : Nat} {u v : CBu} {b : Nat → Nat} (h : BhI N u v) : ∀ j, (∀ k, k < j → b k < N) → BhI N u (cb_bhB b j v) ∧ ∀ q, cb_dt (cb_bhB b j v) q = true → cb_dt v q = true ∧ ∀ k, k < j → b k ≠ q
  | 0, _ => ⟨h, fun q hq => ⟨hq, fun k hk => absurd hk (Nat.not_lt_zero k)⟩⟩
  | j + 1, hb => by
    obtain ⟨h1, h2⟩ := bhi_B (b := b) h j (fun k hk => hb k (by omega))
    refine ⟨bhi_bh (hb j (by omega)) h1, fun q hq => ?_⟩
    obtain ⟨e1, e2⟩ := bh_dt hq
    obtain ⟨e3, e4⟩ := h2 q e1
    refine ⟨e3, fun k hk => ?_⟩
    by_cases hkj : k = j
    · rw [hkj]
      exact fun e => e2 e.symm
    · exact e4 k (by omega)
theorem bring_I {N : Nat} {u : CBu} (h : Ok N u) (hN : N = 256) : BhI N u (cb_bring u) ∧ ∀ j, j < N → cb_dt (cb_bring u) j = false := by
  obtain ⟨sc, pl, ln, bn, n, dt, hi, sw, mi, hc, co⟩ := u
  obtain ⟨a1, a2, a3, a4, a5, a6, a7⟩ := h
  obtain ⟨s1, s2, s3⟩ := bhi_S (N := N) (u := (sc, pl, ln, bn, n, dt, hi, sw, mi, hc, co)) (fun s q hs => by have := (a4 s q hs).2.2.1; omega) sc
  obtain ⟨b1, b2⟩ := bhi_B (b := bn) s1 n (fun k hk => by have := (a5 k hk).1; omega)
  refine ⟨b1, fun j hj => ?_⟩
  cases hd : cb_dt (cb_bring (sc, pl, ln, bn, n, dt, hi, sw, mi, hc, co)) j with
  | false => rfl
  | true =>
    have hd : cb_dt (cb_bhB bn n (cb_bhS sc (sc, pl, ln, bn, n, dt, hi, sw, mi, hc, co))) j = true := hd
    obtain ⟨e1, e2⟩ := b2 j hd
    rcases a7 j (by omega) (by omega) (s3 j e1) with c | ⟨k, c1, c2⟩
    · rw [s2 (j % sc) j (Nat.mod_lt _ (okS_lt a1).1) c] at e1
      cases e1
    · exact absurd c2 (e2 k c1)
theorem bring_A {N : Nat} {u : CBu} (h : Ok N u) (hN : N = 256) : cb_bring u = cb_bhA N u := by
  obtain ⟨h1, h2⟩ := bring_I h hN
  obtain ⟨h3, h4⟩ := bhi_A (N := N) (u := u) N (Nat.le_refl N)
  exact bhi_end h1 h3 h2 h4
theorem rx_bhA {c0 : Int32} {wr hm : Nat → Int32} {u : CBu} {x : MDu} (h : RX 0 c0 wr hm u x) : ∀ i, i ≤ 256 → RX 0 c0 wr hm (cb_bhA i u) (md_bhs i x)
  | 0, _ => h
  | i + 1, hi => rx_bh (by omega) (rx_bhA h i (by omega))
theorem bhs_rest (x : MDu) : ∀ i, md_cn (md_bhs i x) = md_cn x ∧ md_asked (md_bhs i x) = md_asked x ∧ md_many (md_bhs i x) = md_many x
  | 0 => ⟨rfl, rfl, rfl⟩
  | i + 1 => by
    obtain ⟨h1, h2, h3⟩ := bhs_rest x i
    have h4 := md_same_goes 0 i (md_bhs i x)
    exact ⟨(mcn_goes _ _ _).trans h1, h4.2.1.trans h2, h4.2.2.1.trans h3⟩
theorem cn_BhI {N : Nat} {u v : CBu} (h : BhI N u v) : cb_cn v = cb_cn u := by
  obtain ⟨sc1, pl1, ln1, bn1, n1, dt1, hi1, sw1, mi1, hc1, co1⟩ := u
  obtain ⟨sc, pl, ln, bn, n, dt, hi, sw, mi, hc, co⟩ := v
  obtain ⟨⟨a1, a2, a3, a4, a5, a6, a7, a8⟩, -⟩ := h
  subst a6; subst a7; subst a8
  rfl
theorem ok_BhI {N : Nat} {u v : CBu} (hN : N = 256) (h0 : Ok N u) (h : BhI N u v) (hd : ∀ j, j < N → cb_dt v j = false) : Ok N v := by
  obtain ⟨sc1, pl1, ln1, bn1, n1, dt1, hi1, sw1, mi1, hc1, co1⟩ := u
  obtain ⟨sc, pl, ln, bn, n, dt, hi, sw, mi, hc, co⟩ := v
  obtain ⟨⟨a1, a2, a3, a4, a5, a6, a7, a8⟩, -⟩ := h
  subst a1; subst a2; subst a3; subst a4; subst a5
  obtain ⟨b1, b2, b3, b4, b5, b6, b7⟩ := h0
  refine ⟨b1, b2, b3, b4, b5, b6, fun q hq _ hq2 => ?_⟩
  have hd : dt q = false := hd q (by omega)
  rw [hd] at hq2
  cases hq2
theorem sim_bring {wr hm : Nat → Int32} {u : CBu} {la : LAu} {x : MDu} (h : SimS wr hm u la x) : SimS wr hm (cb_bring u) la (md_all x) ∧ (∀ j, j < 256 → cb_dt (cb_bring u) j = false) ∧ cb_hc (cb_bring u) - cb_hc u = nI (cnt (md_dt x) 256) := by
  obtain ⟨h1, h2, h3, h4, h5, h6⟩ := h
  obtain ⟨N, hN⟩ : ∃ N : Nat, N = 256 := ⟨256, rfl⟩
  have h1N : Ok N u := by rw [hN]; exact h1
  obtain ⟨g1, g2⟩ := bring_I h1N hN
  have gA := bring_A h1N hN
  have gR := rx_bhA h2 N (by omega)
  have gB := bhs_rest x N
  have e : md_all x = md_bhs N x := by rw [hN]; rfl
  rw [e]
  refine ⟨⟨?_, ?_, ?_, ?_, h5, ?_⟩, ?_, ?_⟩
  · rw [← hN]
    exact ok_BhI hN h1N g1 g2
  · rw [gA]
    exact gR
  · rw [gB.1, h3]
    exact (cn_BhI g1).symm
  · exact rl_of gB.2.1 gB.2.2 h4
  · exact md_abd_of gB.2.1 gB.2.2 h6
  · rw [← hN]
    exact g2
  · rw [← hN]
    generalize cb_bring u = v at g1 g2
    obtain ⟨sc, pl, ln, bn, n, dt, hi, sw, mi, hc, co⟩ := u
    obtain ⟨sc1, pl1, ln1, bn1, n1, dt1, hi1, sw1, mi1, hc1, co1⟩ := v
    obtain ⟨mw, mh, ms, mp, ml, mb, mm, md, mc, mhi, msw, mmi, mhc, ma, mq, mt⟩ := x
    obtain ⟨-, e1, -⟩ := g1
    obtain ⟨⟨r1, r2, r3, r4, r5, r6, r7⟩, r8⟩ := h2
    have z : cnt dt1 N = 0 := cnt_zero g2
    have e1 : hc1 + nI (cnt dt1 N) = hc + nI (cnt dt N) := e1
    rw [z, show nI 0 = 0 from rfl, Int32.add_zero] at e1
    show hc1 - hc = nI (cnt md N)
    rw [e1, cnt_congr (p := md) (q := dt) (n := N) (fun j hj => by have := r6 j (by omega); rw [show 256 * 0 + j = j by omega] at this; exact this)]
    rw [Int32.add_comm, Int32.add_sub_cancel]
theorem rx_empty {w s' p' : Nat} {c0 : Int32} {wr hm : Nat → Int32} {u : CBu} {x : MDu} (hd : w = 0 → ∀ j, j < 256 → cb_dt u j = false) (h : RX w c0 wr hm u x) : RX w c0 wr hm (cb_empty s' p' u) (md_size w s' p' (md_empties w x)) := by
  obtain ⟨sc, pl, ln, bn, n, dt, hi, sw, mi, hc, co⟩ := u
  obtain ⟨mw, mh, ms, mp, ml, mb, mm, md, mc, mhi, msw, mmi, mhc, ma, mq, mt⟩ := x
  obtain ⟨⟨r1, r2, r3, r4, r5, r6, r7⟩, r8⟩ := h
  refine ⟨⟨ru_s _ _ _, ru_s _ _ _, fun s hs => fil_in (by omega) (by omega), ru_s _ _ _, fun k hk => absurd hk (Nat.not_lt_zero k), fun j hj => fil_in (by omega) (by omega), r7⟩, fun hw => ?_⟩
  obtain ⟨g1, g2, g3⟩ := r8 hw
  refine ⟨g1, g2, fun a ha => ?_⟩
  have hd : dt (a / 4) = false := hd hw (a / 4) (by omega)
  have g := g3 a ha
  rw [hd] at g
  exact g
theorem cn_empty (s' p' : Nat) (u : CBu) : cb_cn (cb_empty s' p' u) = cb_cn u := by
  obtain ⟨sc, pl, ln, bn, n, dt, hi, sw, mi, hc, co⟩ := u
  rfl
theorem mcn_se (w s' p' : Nat) (x : MDu) : md_cn (md_size w s' p' (md_empties w x)) = md_cn x ∧ md_asked (md_size w s' p' (md_empties w x)) = md_asked x ∧ md_many (md_size w s' p' (md_empties w x)) = md_many x := by
  obtain ⟨mw, mh, ms, mp, ml, mb, mm, md, mc, mhi, msw, mmi, mhc, ma, mq, mt⟩ := x
  exact ⟨rfl, rfl, rfl⟩
theorem sim_build0 {wr hm : Nat → Int32} {u : CBu} {la : LAu} {x : MDu} {s' p' : Nat} (hs : s' = 1 ∨ s' = 2 ∨ s' = 4 ∨ s' = 8 ∨ s' = 16) (hp : p' ≤ 8) (h : SimS wr hm u la x) (hd : ∀ j, j < 256 → cb_dt u j = false) : SimS wr hm (cb_empty s' p' u) la (md_size 0 s' p' (md_empties 0 x)) :=
  ⟨ok_empty u hs hp, rx_empty (fun _ => hd) h.2.1, (mcn_se 0 s' p' x).1.trans (h.2.2.1.trans (cn_empty s' p' u).symm), rl_of (mcn_se 0 s' p' x).2.1 (mcn_se 0 s' p' x).2.2 h.2.2.2.1, h.2.2.2.2.1, md_abd_of (mcn_se 0 s' p' x).2.1 (mcn_se 0 s' p' x).2.2 h.2.2.2.2.2⟩
theorem sim_build {wr hm : Nat → Int32} {u : CBu} {la : LAu} {x : MDu} {s' p' : Nat} (hs : s' = 1 ∨ s' = 2 ∨ s' = 4 ∨ s' = 8 ∨ s' = 16) (hp : p' ≤ 8) (h : SimS wr hm u la x) : SimS wr hm (cb_empty s' p' (cb_bring u)) la (md_size 0 s' p' (md_empties 0 (md_all x))) := sim_build0 hs hp (sim_bring h).1 (sim_bring h).2.1
theorem sim_lines {wr hm : Nat → Int32} {u : CBu} {la : LAu} {x : MDu} (h : SimS wr hm u la x) : cb_lines u = md_lines x := by
  obtain ⟨h1, h2, -⟩ := h
  obtain ⟨sc, pl, ln, bn, n, dt, hi, sw, mi, hc, co⟩ := u
  obtain ⟨mw, mh, ms, mp, ml, mb, mm, md, mc, mhi, msw, mmi, mhc, ma, mq, mt⟩ := x
  obtain ⟨⟨r1, r2, r3, r4, r5, r6, r7⟩, r8⟩ := h2
  have hs := okS_lt h1.1
  show n + cnt (fun s => (ln s).isSome) sc = cnt (fun s => (ml s).isSome) (ms 0) + mm 0
  rw [r1, r4, Nat.add_comm]
  congr 1
  refine cnt_congr fun j hj => ?_
  have := r3 j (by omega)
  rw [show 16 * 0 + j = j by omega] at this
  rw [this]
theorem sim_throw {wr hm : Nat → Int32} {u : CBu} {la : LAu} {x : MDu} {k q : Nat} (hq : cb_ln u k = some q) (h : SimS wr hm u la x) : SimS wr hm (cb_throw k u) la (md_throws 0 k q x) := by
  obtain ⟨h1, h2, h3, h4, h5, h6⟩ := h
  have hs := md_same_throws 0 k q x
  refine ⟨ok_throw h1, ?_, (mcn_throws _ _ _ _).trans (h3.trans (cn_throw _ _).symm), rl_of hs.2.1 hs.2.2.1 h4, h5, md_abd_of hs.2.1 hs.2.2.1 h6⟩
  obtain ⟨sc, pl, ln, bn, n, dt, hi, sw, mi, hc, co⟩ := u
  obtain ⟨a1, a2, a3, a4, a5, a6, a7⟩ := h1
  exact rx_throw (u := (sc, pl, ln, bn, n, dt, hi, sw, mi, hc, co)) a3 (fun h => (a5 0 h).1) hq (a4 _ _ hq).2.2.1 h2

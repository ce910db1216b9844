/-! what the second world's steps leave of the first -/
def fr0 : MDu → MDu → Prop := fun (mw, mh, ms, mp, ml, mb, mm, md, mc, mhi, msw, mmi, mhc, ma, mq, mt) (mw1, mh1, ms1, mp1, ml1, mb1, mm1, md1, mc1, mhi1, msw1, mmi1, mhc1, ma1, mq1, mt1) => (mw1 = mw ∧ mh1 = mh ∧ ms1 0 = ms 0 ∧ mp1 0 = mp 0 ∧ (∀ s, s < 16 → ml1 s = ml s) ∧ (∀ k, k < 8 → mb1 k = mb k) ∧ mm1 0 = mm 0 ∧ (∀ j, j < 256 → md1 j = md j)) ∧ mc1 0 = mc 0 ∧ mhi1 = mhi ∧ msw1 = msw ∧ mmi1 = mmi ∧ mhc1 = mhc ∧ ma1 = ma ∧ mq1 = mq
theorem fr0_rf (x : MDu) : fr0 x x := by
  obtain ⟨mw, mh, ms, mp, ml, mb, mm, md, mc, mhi, msw, mmi, mhc, ma, mq, mt⟩ := x
  exact ⟨⟨rfl, rfl, rfl, rfl, fun _ _ => rfl, fun _ _ => rfl, rfl, fun _ _ => rfl⟩, rfl, rfl, rfl, rfl, rfl, rfl, rfl⟩
theorem fr0.tr {x y z : MDu} (h : fr0 x y) (g : fr0 y z) : fr0 x z := by
  obtain ⟨mw, mh, ms, mp, ml, mb, mm, md, mc, mhi, msw, mmi, mhc, ma, mq, mt⟩ := x
  obtain ⟨mw1, mh1, ms1, mp1, ml1, mb1, mm1, md1, mc1, mhi1, msw1, mmi1, mhc1, ma1, mq1, mt1⟩ := y
  obtain ⟨mw2, mh2, ms2, mp2, ml2, mb2, mm2, md2, mc2, mhi2, msw2, mmi2, mhc2, ma2, mq2, mt2⟩ := z
  obtain ⟨⟨a1, a2, a3, a4, a5, a6, a7, a8⟩, a9, a10, a11, a12, a13, a14, a15⟩ := h
  obtain ⟨⟨b1, b2, b3, b4, b5, b6, b7, b8⟩, b9, b10, b11, b12, b13, b14, b15⟩ := g
  exact ⟨⟨b1.trans a1, b2.trans a2, b3.trans a3, b4.trans a4, fun s hs => (b5 s hs).trans (a5 s hs), fun s hs => (b6 s hs).trans (a6 s hs), b7.trans a7, fun s hs => (b8 s hs).trans (a8 s hs)⟩, b9.trans a9, b10.trans a10, b11.trans a11, b12.trans a12, b13.trans a13, b14.trans a14, b15.trans a15⟩
theorem fr0_goes (q : Nat) (x : MDu) : fr0 x (md_goes 1 q x) := by
  obtain ⟨mw, mh, ms, mp, ml, mb, mm, md, mc, mhi, msw, mmi, mhc, ma, mq, mt⟩ := x
  unfold md_goes
  dsimp only
  split
  · refine ⟨⟨rfl, rfl, rfl, rfl, fun _ _ => rfl, fun _ _ => rfl, rfl, fun j hj => ?_⟩, ?_, rfl, rfl, rfl, ?_, rfl, rfl⟩
    · exact ru_n _ _ (by omega)
    · exact ru_n _ _ (by decide)
    · exact Int32.add_zero _
  · exact fr0_rf _
theorem fr0_ln {mw : Nat → Int32} {mh : Nat → Int32} {ms : Nat → Nat} {mp : Nat → Nat} {ml : Nat → Option Nat} {mb : Nat → Nat} {mm : Nat → Nat} {md : Nat → Bool} {mc : Nat → Int32} {mhi : Int32} {msw : Int32} {mmi : Int32} {mhc : Int32} {ma : Nat → Nat} {mq : Nat} {mt : Nat} (s : Nat) (o : Option Nat) : fr0 (mw, mh, ms, mp, ml, mb, mm, md, mc, mhi, msw, mmi, mhc, ma, mq, mt) (mw, mh, ms, mp, ru ml (16 * 1 + s) o, mb, mm, md, mc, mhi, msw, mmi, mhc, ma, mq, mt) :=
  ⟨⟨rfl, rfl, rfl, rfl, fun j hj => ru_n _ _ (by omega), fun _ _ => rfl, rfl, fun _ _ => rfl⟩, rfl, rfl, rfl, rfl, rfl, rfl, rfl⟩
theorem fr0_mm {mw : Nat → Int32} {mh : Nat → Int32} {ms : Nat → Nat} {mp : Nat → Nat} {ml : Nat → Option Nat} {mb : Nat → Nat} {mm : Nat → Nat} {md : Nat → Bool} {mc : Nat → Int32} {mhi : Int32} {msw : Int32} {mmi : Int32} {mhc : Int32} {ma : Nat → Nat} {mq : Nat} {mt : Nat} (k : Nat) : fr0 (mw, mh, ms, mp, ml, mb, mm, md, mc, mhi, msw, mmi, mhc, ma, mq, mt) (mw, mh, ms, mp, ml, mb, ru mm 1 k, md, mc, mhi, msw, mmi, mhc, ma, mq, mt) :=
  ⟨⟨rfl, rfl, rfl, rfl, fun _ _ => rfl, fun _ _ => rfl, ru_n _ _ (by decide), fun _ _ => rfl⟩, rfl, rfl, rfl, rfl, rfl, rfl, rfl⟩
theorem fr0_sits (q : Nat) (x : MDu) : fr0 x (md_sits 1 q x) := by
  obtain ⟨mw, mh, ms, mp, ml, mb, mm, md, mc, mhi, msw, mmi, mhc, ma, mq, mt⟩ := x
  refine ⟨⟨rfl, rfl, rfl, rfl, fun _ _ => rfl, fun j hj => ?_, ru_n _ _ (by decide), fun _ _ => rfl⟩, rfl, rfl, rfl, rfl, rfl, rfl, rfl⟩
  show ru (shr mb (8 * 1) (8 * 1 + mm 1)) (8 * 1) q j = mb j
  unfold ru shr
  rw [if_neg (by omega), if_neg (by omega)]
theorem fr0_leaves (k : Nat) (x : MDu) : fr0 x (md_leaves 1 k x) := by
  obtain ⟨mw, mh, ms, mp, ml, mb, mm, md, mc, mhi, msw, mmi, mhc, ma, mq, mt⟩ := x
  refine ⟨⟨rfl, rfl, rfl, rfl, fun _ _ => rfl, fun j hj => ?_, ru_n _ _ (by decide), fun _ _ => rfl⟩, rfl, rfl, rfl, rfl, rfl, rfl, rfl⟩
  show shl mb (8 * 1 + k) (8 * 1 + (mm 1 - 1)) j = mb j
  unfold shl
  rw [if_neg (by omega)]
theorem fr0_put (s q : Nat) (x : MDu) : fr0 x (md_put 1 s q x) := by
  obtain ⟨mw, mh, ms, mp, ml, mb, mm, md, mc, mhi, msw, mmi, mhc, ma, mq, mt⟩ := x
  exact fr0_ln s (some q)
theorem fr0_cost (y : Int32) (x : MDu) : fr0 x (md_cost 1 y x) := by
  obtain ⟨mw, mh, ms, mp, ml, mb, mm, md, mc, mhi, msw, mmi, mhc, ma, mq, mt⟩ := x
  exact ⟨⟨rfl, rfl, rfl, rfl, fun _ _ => rfl, fun _ _ => rfl, rfl, fun _ _ => rfl⟩, ru_n _ _ (by decide), rfl, rfl, rfl, rfl, rfl, rfl⟩
theorem fr0_throws (s q : Nat) (x : MDu) : fr0 x (md_throws 1 s q x) := by
  obtain ⟨mw, mh, ms, mp, ml, mb, mm, md, mc, mhi, msw, mmi, mhc, ma, mq, mt⟩ := x
  unfold md_throws
  dsimp only
  split
  · exact (fr0_ln s none).tr (fr0_goes _ _)
  · split
    · exact ((fr0_ln s none).tr (fr0_mm _)).tr ((fr0_goes _ _).tr (fr0_sits _ _))
    · exact (fr0_ln s none).tr (fr0_sits _ _)
theorem fr0_acc (q : Nat) (x : MDu) : fr0 x (md_acc 1 q x) := by
  obtain ⟨mw, mh, ms, mp, ml, mb, mm, md, mc, mhi, msw, mmi, mhc, ma, mq, mt⟩ := x
  unfold md_acc
  dsimp only
  split
  · split
    · exact (fr0_cost _ _).tr (fr0_put _ _ _)
    · exact (fr0_cost _ _).tr ((fr0_leaves _ _).tr (fr0_put _ _ _))
  · split
    · exact fr0_cost _ _
    · split
      · exact (fr0_cost _ _).tr ((fr0_throws _ _ _).tr (fr0_put _ _ _))
      · exact (fr0_cost _ _).tr ((fr0_leaves _ _).tr ((fr0_sits _ _).tr (fr0_put _ _ _)))
theorem fr0_mark (q : Nat) (b : Bool) (x : MDu) : fr0 x (md_mark (256 + q) b x) := by
  obtain ⟨mw, mh, ms, mp, ml, mb, mm, md, mc, mhi, msw, mmi, mhc, ma, mq, mt⟩ := x
  refine ⟨⟨rfl, rfl, rfl, rfl, fun _ _ => rfl, fun _ _ => rfl, rfl, fun j hj => ?_⟩, rfl, rfl, rfl, rfl, rfl, rfl, rfl⟩
  show (if b then ru md (256 + q) true else md) j = md j
  cases b
  · rfl
  · exact ru_n _ _ (by omega)
theorem fr0_base (s' p' : Nat) (x : MDu) : fr0 x (md_zero 1 (md_size 1 s' p' (md_empties 1 x))) := by
  obtain ⟨mw, mh, ms, mp, ml, mb, mm, md, mc, mhi, msw, mmi, mhc, ma, mq, mt⟩ := x
  refine ⟨⟨rfl, rfl, ru_n _ _ (by decide), ru_n _ _ (by decide), fun j hj => ?_, fun _ _ => rfl, ru_n _ _ (by decide), fun j hj => ?_⟩, ru_n _ _ (by decide), rfl, rfl, rfl, rfl, rfl, rfl⟩
  · show fil ml (16 * 1) (16 * 1 + 16) none j = ml j
    unfold fil
    rw [if_neg (by omega)]
  · show fil md (256 * 1) (256 * 1 + 256) false j = md j
    unfold fil
    rw [if_neg (by omega)]
theorem sim_fr {wr hm : Nat → Int32} {u : CBu} {la : LAu} {x y : MDu} (g : fr0 x y) (h : SimS wr hm u la x) : SimS wr hm u la y := by
  obtain ⟨h1, h2, h3, h4, h5, h6⟩ := h
  have hn : u.2.2.2.2.1 ≤ 8 := cb_n8 (ok_of h1)
  obtain ⟨sc, pl, ln, bn, n, dt, hi, sw, mi, hc, co⟩ := u
  obtain ⟨ll, lw, lc, lx⟩ := la
  obtain ⟨mw, mh, ms, mp, ml, mb, mm, md, mc, mhi, msw, mmi, mhc, ma, mq, mt⟩ := x
  obtain ⟨mw1, mh1, ms1, mp1, ml1, mb1, mm1, md1, mc1, mhi1, msw1, mmi1, mhc1, ma1, mq1, mt1⟩ := y
  obtain ⟨⟨a1, a2, a3, a4, a5, a6, a7, a8⟩, a9, a10, a11, a12, a13, a14, a15⟩ := g
  obtain ⟨⟨r1, r2, r3, r4, r5, r6, r7⟩, r8⟩ := h2
  have hn : n ≤ 8 := hn
  subst a1; subst a2; subst a10; subst a11; subst a12; subst a13; subst a14; subst a15
  have f1 : RX 0 0 wr hm (sc, pl, ln, bn, n, dt, hi, sw, mi, hc, co) (mw1, mh1, ms1, mp1, ml1, mb1, mm1, md1, mc1, mhi1, msw1, mmi1, mhc1, ma1, mq1, mt1) := by
    refine ⟨⟨a3.trans r1, a4.trans r2, fun s hs => (a5 _ (by omega)).trans (r3 s hs), a7.trans r4, fun k hk => (a6 _ (by omega)).trans (r5 k hk), fun j hj => (a8 _ (by omega)).trans (r6 j hj), ?_⟩, r8⟩
    rw [a9]
    exact r7
  have f3 : ((mhi1, msw1, mmi1) : Int32 × Int32 × Int32) = cb_cn (sc, pl, ln, bn, n, dt, hi, sw, mi, hc, co) := h3
  have f4 : mq1 = lc ∧ (∀ k, k < lc → ma1 k = 2 * ll (la_slot k (ll, lw, lc, lx)) + (if lw (la_slot k (ll, lw, lc, lx)) then 1 else 0)) ∧ (lc < 150 → lx = lc) := h4
  have f6 : mq1 ≤ 150 ∧ ∀ k, k < 150 → ma1 k < 512 := h6
  exact ⟨h1, f1, f3, f4, h5, f6⟩
theorem rl_fr {la : LAu} {x y : MDu} (g : fr0 x y) (h : RLa la x) : RLa la y := by
  obtain ⟨mw, mh, ms, mp, ml, mb, mm, md, mc, mhi, msw, mmi, mhc, ma, mq, mt⟩ := x
  obtain ⟨mw1, mh1, ms1, mp1, ml1, mb1, mm1, md1, mc1, mhi1, msw1, mmi1, mhc1, ma1, mq1, mt1⟩ := y
  obtain ⟨-, -, -, -, -, -, a14, a15⟩ := g
  exact rl_of (x := (mw, mh, ms, mp, ml, mb, mm, md, mc, mhi, msw, mmi, mhc, ma, mq, mt)) (y := (mw1, mh1, ms1, mp1, ml1, mb1, mm1, md1, mc1, mhi1, msw1, mmi1, mhc1, ma1, mq1, mt1)) a14 a15 h
/-! a trial -/
theorem rx_reset {s' p' : Nat} {wr hm : Nat → Int32} (t : CBu) (x : MDu) : RX 1 (cb_co t) wr hm (cb_empty s' p' t) (md_zero 1 (md_size 1 s' p' (md_empties 1 x))) := by
  obtain ⟨sc, pl, ln, bn, n, dt, hi, sw, mi, hc, co⟩ := t
  obtain ⟨mw, mh, ms, mp, ml, mb, mm, md, mc, mhi, msw, mmi, mhc, ma, mq, mt⟩ := x
  refine ⟨⟨ru_s _ _ _, ru_s _ _ _, fun s hs => fil_in (by omega) (by omega), ru_s _ _ _, fun k hk => absurd hk (Nat.not_lt_zero k), fun j hj => fil_in (by omega) (by omega), ?_⟩, fun hw => absurd hw (by decide)⟩
  show co = co + ru mc 1 0 1
  rw [ru_s, Int32.add_zero]
theorem rx_mark1 {c0 : Int32} {wr hm : Nat → Int32} {u : CBu} {x : MDu} {q : Nat} {b : Bool} (h : RX 1 c0 wr hm u x) : RX 1 c0 wr hm (cb_mark q b u) (md_mark (256 + q) b x) :=
  ⟨rw_mark b h.1, fun hw => absurd hw (by decide)⟩
theorem rx1 {c0 : Int32} {wr hm : Nat → Int32} {u : CBu} {x : MDu} (h : RW 1 c0 u x) : RX 1 c0 wr hm u x := by
  obtain ⟨sc, pl, ln, bn, n, dt, hi, sw, mi, hc, co⟩ := u
  obtain ⟨mw, mh, ms, mp, ml, mb, mm, md, mc, mhi, msw, mmi, mhc, ma, mq, mt⟩ := x
  exact ⟨h, fun hw => absurd hw (by decide)⟩
theorem sim_try {c0 : Int32} {wr hm : Nat → Int32} {la : LAu} {u : CBu} {x : MDu} (hu : Ok 256 u) (hla : la_bd la) (hr : RLa la x) (h : RX 1 c0 wr hm u x) : ∀ k, k ≤ la.2.2.1 → Ok 256 (la_try la k u) ∧ RX 1 c0 wr hm (la_try la k u) (md_try k x) ∧ fr0 x (md_try k x)
  | 0, _ => ⟨hu, h, fr0_rf x⟩
  | k + 1, hk => by
    obtain ⟨i1, i2, i3⟩ := sim_try hu hla hr h k (by omega)
    have hq : la.1 (la_slot k la) < 256 := hla.2.2 _ (la_slot_lt k la)
    have e : md_asked x k = 2 * la.1 (la_slot k la) + (if la.2.1 (la_slot k la) then 1 else 0) := by
      obtain ⟨ll, lw, lc, lx⟩ := la
      obtain ⟨mw, mh, ms, mp, ml, mb, mm, md, mc, mhi, msw, mmi, mhc, ma, mq, mt⟩ := x
      exact hr.2.1 k (by have : k + 1 ≤ lc := hk; omega)
    have e1 : md_asked x k / 2 = la.1 (la_slot k la) := by
      rw [e]
      split <;> omega
    have e2 : decide (md_asked x k % 2 = 1) = la.2.1 (la_slot k la) := by
      rw [e]
      cases la.2.1 (la_slot k la)
      · exact decide_eq_false (by show ¬ (2 * la.1 (la_slot k la) + 0) % 2 = 1; omega)
      · exact decide_eq_true (by show (2 * la.1 (la_slot k la) + 1) % 2 = 1; omega)
    unfold la_try md_try
    rw [e1, e2]
    generalize la.1 (la_slot k la) = q at hq ⊢
    generalize la.2.1 (la_slot k la) = b
    refine ⟨ok_acc i1 hq, ?_, (i3.tr (fr0_acc _ _)).tr (fr0_mark _ _ _)⟩
    rw [acc_mark]
    exact ⟨rw_mark b (rx_acc i1 hq i2).1, (rx1 (rw_mark b (rx_acc i1 hq i2).1)).2⟩
theorem sim_trial {wr hm : Nat → Int32} {u : CBu} {la : LAu} {x : MDu} {s' p' : Nat} (t : CBu) (hs : s' = 1 ∨ s' = 2 ∨ s' = 4 ∨ s' = 8 ∨ s' = 16) (hp : p' ≤ 8) (h : SimS wr hm u la x) : SimS wr hm u la (md_tried s' p' x) ∧ cb_co (la_trial la s' p' t) - cb_co t = md_co (md_tried s' p' x) 1 := by
  have h0 := h
  obtain ⟨h1, h2, h3, h4, h5, h6⟩ := h0
  have hm0 : md_many x = la.2.2.1 := by
    obtain ⟨ll, lw, lc, lx⟩ := la
    obtain ⟨mw, mh, ms, mp, ml, mb, mm, md, mc, mhi, msw, mmi, mhc, ma, mq, mt⟩ := x
    exact h4.1
  unfold md_tried la_trial
  rw [hm0]
  have hb := fr0_base s' p' x
  obtain ⟨i1, i2, i3⟩ := sim_try (wr := wr) (hm := hm) (ok_empty t hs hp) h5 (rl_fr hb h4) (rx_reset t x) la.2.2.1 (Nat.le_refl _)
  refine ⟨sim_fr (hb.tr i3) h, ?_⟩
  generalize la_try la la.2.2.1 (cb_empty s' p' t) = v at i2
  generalize md_try la.2.2.1 (md_zero 1 (md_size 1 s' p' (md_empties 1 x))) = y at i2
  generalize cb_co t = c0 at i2 ⊢
  obtain ⟨sc, pl, ln, bn, n, dt, hi, sw, mi, hc, co⟩ := v
  obtain ⟨mw, mh, ms, mp, ml, mb, mm, md, mc, mhi, msw, mmi, mhc, ma, mq, mt⟩ := y
  obtain ⟨⟨r1, r2, r3, r4, r5, r6, r7⟩, r8⟩ := i2
  show co - c0 = mc 1
  rw [r7, Int32.add_comm, Int32.add_sub_cancel]
theorem sim_best {wr hm : Nat → Int32} {u : CBu} {la : LAu} {x : MDu} {s' : Nat} (t : CBu) (hs : s' = 1 ∨ s' = 2 ∨ s' = 4 ∨ s' = 8 ∨ s' = 16) (h : SimS wr hm u la x) : ∀ k, k ≤ 8 → (la_best la s' k t).1 = (md_best s' k x).1 ∧ (la_best la s' k t).2.1 = (md_best s' k x).2.1 ∧ SimS wr hm u la (md_best s' k x).2.2
  | 0, _ => by
    obtain ⟨g1, g2⟩ := sim_trial (p' := 0) t hs (by omega) h
    exact ⟨rfl, g2, g1⟩
  | k + 1, hk => by
    obtain ⟨i1, i2, i3⟩ := sim_best t hs h k (by omega)
    unfold la_best md_best
    generalize la_best la s' k t = a at i1 i2
    generalize md_best s' k x = b at i1 i2 i3
    obtain ⟨a1, a2, a3⟩ := a
    obtain ⟨b1, b2, b3⟩ := b
    have i1 : a1 = b1 := i1
    have i2 : a2 = b2 := i2
    have i3 : SimS wr hm u la b3 := i3
    subst i1; subst i2
    obtain ⟨g1, g2⟩ := sim_trial (p' := k + 1) a3 hs (by omega) i3
    dsimp only
    rw [g2]
    split
    · exact ⟨rfl, rfl, g1⟩
    · exact ⟨rfl, rfl, g1⟩
/-! what is asked of both -/
theorem sim_bd {wr hm : Nat → Int32} {u : CBu} {la : LAu} {x : MDu} (h : SimS wr hm u la x) : md_bd 0 x := by
  obtain ⟨h1, h2, -⟩ := h
  obtain ⟨sc, pl, ln, bn, n, dt, hi, sw, mi, hc, co⟩ := u
  obtain ⟨mw, mh, ms, mp, ml, mb, mm, md, mc, mhi, msw, mmi, mhc, ma, mq, mt⟩ := x
  obtain ⟨a1, a2, a3, a4, a5, a6, a7⟩ := h1
  obtain ⟨⟨r1, r2, r3, r4, r5, r6, r7⟩, r8⟩ := h2
  refine ⟨by rw [r1]; exact a1, by rw [r2]; exact a2, by rw [r2, r4]; exact a3, fun s q hs hq => ?_, fun k hk => ?_⟩
  · rw [r3 s hs] at hq
    exact (a4 s q hq).2.2.1
  · rw [r4] at hk
    rw [r5 k hk]
    exact (a5 _ (by omega)).1
theorem sim_co {wr hm : Nat → Int32} {u : CBu} {la : LAu} {x : MDu} (h : SimS wr hm u la x) : cb_co u = md_co x 0 := by
  obtain ⟨h1, h2, -⟩ := h
  obtain ⟨sc, pl, ln, bn, n, dt, hi, sw, mi, hc, co⟩ := u
  obtain ⟨mw, mh, ms, mp, ml, mb, mm, md, mc, mhi, msw, mmi, mhc, ma, mq, mt⟩ := x
  obtain ⟨⟨r1, r2, r3, r4, r5, r6, r7⟩, r8⟩ := h2
  show co = mc 0
  rw [r7, Int32.zero_add]
theorem sim_ln {wr hm : Nat → Int32} {sc : Nat} {pl : Nat} {ln : Nat → Option Nat} {bn : Nat → Nat} {n : Nat} {dt : Nat → Bool} {hi : Int32} {sw : Int32} {mi : Int32} {hc : Int32} {co : Int32} {la : LAu} {mw : Nat → Int32} {mh : Nat → Int32} {ms : Nat → Nat} {mp : Nat → Nat} {ml : Nat → Option Nat} {mb : Nat → Nat} {mm : Nat → Nat} {md : Nat → Bool} {mc : Nat → Int32} {mhi : Int32} {msw : Int32} {mmi : Int32} {mhc : Int32} {ma : Nat → Nat} {mq : Nat} {mt : Nat} (h : SimS wr hm (sc, pl, ln, bn, n, dt, hi, sw, mi, hc, co) la (mw, mh, ms, mp, ml, mb, mm, md, mc, mhi, msw, mmi, mhc, ma, mq, mt)) : ms 0 = sc ∧ mp 0 = pl ∧ mm 0 = n ∧ mw = wr ∧ mhc = hc ∧ (∀ s, s < 16 → ml s = ln s) ∧ (∀ k, k < n → mb k = bn (n - 1 - k)) ∧ (∀ j, j < 256 → md j = dt j) ∧ (∀ a, a < 1024 → mh a = if dt (a / 4) = true then hm a else wr a) ∧ mhi = hi ∧ msw = sw ∧ mmi = mi := by
  obtain ⟨h1, h2, h3, -⟩ := h
  obtain ⟨⟨r1, r2, r3, r4, r5, r6, r7⟩, r8⟩ := h2
  obtain ⟨g1, g2, g3⟩ := r8 rfl
  have h3 : ((mhi, msw, mmi) : Int32 × Int32 × Int32) = (hi, sw, mi) := h3
  simp only [Prod.mk.injEq] at h3
  refine ⟨r1, r2, r4, g1, g2, fun s hs => ?_, fun k hk => ?_, fun j hj => ?_, g3, h3.1, h3.2.1, h3.2.2⟩
  · have := r3 s hs
    rw [show 16 * 0 + s = s by omega] at this
    exact this
  · have := r5 k hk
    rw [show 8 * 0 + k = k by omega] at this
    exact this
  · have := r6 j hj
    rw [show 256 * 0 + j = j by omega] at this
    exact this
theorem sim_dirty {wr hm : Nat → Int32} {u : CBu} {la : LAu} {x : MDu} (h : SimS wr hm u la x) : cb_dirty u = cnt (md_dt x) 256 := by
  obtain ⟨sc, pl, ln, bn, n, dt, hi, sw, mi, hc, co⟩ := u
  obtain ⟨mw, mh, ms, mp, ml, mb, mm, md, mc, mhi, msw, mmi, mhc, ma, mq, mt⟩ := x
  have h := (sim_ln h).2.2.2.2.2.2.2.1
  show cnt dt 256 = cnt md 256
  generalize (256 : Nat) = N at h ⊢
  exact cnt_congr fun j hj => (h j hj).symm
theorem sim_where {wr hm : Nat → Int32} {u : CBu} {la : LAu} {x : MDu} (q : Nat) (h : SimS wr hm u la x) : cb_where q u = md_where q x := by
  have h0 := h
  obtain ⟨h1, h2, -⟩ := h0
  obtain ⟨sc, pl, ln, bn, n, dt, hi, sw, mi, hc, co⟩ := u
  obtain ⟨mw, mh, ms, mp, ml, mb, mm, md, mc, mhi, msw, mmi, mhc, ma, mq, mt⟩ := x
  obtain ⟨p1, p2⟩ := acc_parts (q := q) h1 h2
  unfold cb_where md_where
  dsimp only
  rw [p2]
  rw [show 16 * 0 + q % ms 0 = q % ms 0 by omega] at p1
  rw [p1]
  split
  · rfl
  · cases fnd (fun k => decide (bn k = q)) n with
    | none => rfl
    | some k => rfl
theorem sim_new : SimS (fun _ => 0) (fun _ => 0) cb_new la_new md_new := by
  refine ⟨⟨by decide, by decide, by decide, fun s q h => ?_, fun k hk => absurd hk (Nat.not_lt_zero k), fun i j hi => absurd hi (Nat.not_lt_zero i), fun q _ _ h => Bool.noConfusion h⟩, ⟨⟨ru_s _ _ _, ru_s _ _ _, fun s hs => fil_in (by omega) (by omega), ru_s _ _ _, fun k hk => absurd hk (Nat.not_lt_zero k), fun j hj => fil_in (by omega) (by omega), rfl⟩, fun _ => ⟨rfl, rfl, fun a ha => rfl⟩⟩, rfl, ⟨rfl, fun k hk => absurd hk (Nat.not_lt_zero k), fun _ => rfl⟩, ⟨by decide, by decide, fun k hk => show 0 < 256 by decide⟩, ⟨by decide, fun k hk => show 0 < 512 by decide⟩⟩
  cases h

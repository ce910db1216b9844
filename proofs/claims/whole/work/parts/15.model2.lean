/-! what the accesses leave alone -/
def md_same (x y : MDu) : Prop := x.1 = y.1 ∧ md_asked x = md_asked y ∧ md_many x = md_many y ∧ x.2.2.2.2.2.2.2.2.2.2.2.2.2.2.2 = y.2.2.2.2.2.2.2.2.2.2.2.2.2.2.2
theorem md_same.tr {x y z : MDu} (h : md_same x y) (h2 : md_same y z) : md_same x z := ⟨h.1.trans h2.1, h.2.1.trans h2.2.1, h.2.2.1.trans h2.2.2.1, h.2.2.2.trans h2.2.2.2⟩
theorem md_same.rf (x : MDu) : md_same x x := ⟨rfl, rfl, rfl, rfl⟩
theorem md_same_goes (w q : Nat) (x : MDu) : md_same (md_goes w q x) x := by
  obtain ⟨mw, mh, ms, mp, ml, mb, mm, md, mc, mhi, msw, mmi, mhc, ma, mq, mt⟩ := x
  unfold md_goes
  dsimp only
  split
  · exact ⟨rfl, rfl, rfl, rfl⟩
  · exact ⟨rfl, rfl, rfl, rfl⟩
theorem md_same_put (w s q : Nat) (x : MDu) : md_same (md_put w s q x) x := ⟨rfl, rfl, rfl, rfl⟩
theorem md_same_sits (w q : Nat) (x : MDu) : md_same (md_sits w q x) x := ⟨rfl, rfl, rfl, rfl⟩
theorem md_same_leaves (w k : Nat) (x : MDu) : md_same (md_leaves w k x) x := ⟨rfl, rfl, rfl, rfl⟩
theorem md_same_cost (w : Nat) (k : Int32) (x : MDu) : md_same (md_cost w k x) x := ⟨rfl, rfl, rfl, rfl⟩
theorem md_same_throws (w s q : Nat) (x : MDu) : md_same (md_throws w s q x) x := by
  obtain ⟨mw, mh, ms, mp, ml, mb, mm, md, mc, mhi, msw, mmi, mhc, ma, mq, mt⟩ := x
  unfold md_throws
  dsimp only
  split
  · exact (md_same_goes _ _ _).tr ⟨rfl, rfl, rfl, rfl⟩
  · split
    · exact (md_same_sits _ _ _).tr ((md_same_goes _ _ _).tr ⟨rfl, rfl, rfl, rfl⟩)
    · exact (md_same_sits _ _ _).tr ⟨rfl, rfl, rfl, rfl⟩
theorem md_same_acc (w q : Nat) (x : MDu) : md_same (md_acc w q x) x := by
  obtain ⟨mw, mh, ms, mp, ml, mb, mm, md, mc, mhi, msw, mmi, mhc, ma, mq, mt⟩ := x
  unfold md_acc
  dsimp only
  split
  · split
    · exact (md_same_put _ _ _ _).tr (md_same_cost _ _ _)
    · exact (md_same_put _ _ _ _).tr ((md_same_leaves _ _ _).tr (md_same_cost _ _ _))
  · split
    · exact md_same_cost _ _ _
    · split
      · exact (md_same_put _ _ _ _).tr ((md_same_throws _ _ _ _).tr (md_same_cost _ _ _))
      · exact (md_same_put _ _ _ _).tr ((md_same_sits _ _ _).tr ((md_same_leaves _ _ _).tr (md_same_cost _ _ _)))
theorem md_note_mw (y : Nat) (x : MDu) : (md_note y x).1 = x.1 ∧ (md_note y x).2.2.2.2.2.2.2.2.2.2.2.2.2.2.2 = x.2.2.2.2.2.2.2.2.2.2.2.2.2.2.2 := by
  obtain ⟨mw, mh, ms, mp, ml, mb, mm, md, mc, mhi, msw, mmi, mhc, ma, mq, mt⟩ := x
  unfold md_note
  dsimp only
  split
  · exact ⟨rfl, rfl⟩
  · exact ⟨rfl, rfl⟩
theorem md_ask_mw (q : Nat) (b : Bool) (x : MDu) : (md_ask q b x).1 = x.1 ∧ (md_ask q b x).2.2.2.2.2.2.2.2.2.2.2.2.2.2.2 = x.2.2.2.2.2.2.2.2.2.2.2.2.2.2.2 := by
  have h := md_same_acc 0 q x
  obtain ⟨e1, e2⟩ := md_note_mw (2 * q + (if b then 1 else 0)) (md_mark q b (md_tell (md_what 0 q x) (md_acc 0 q x)))
  exact ⟨e1.trans h.1, e2.trans h.2.2.2⟩
theorem md_steps_mt {a : Nat} {z : Int} {x : MDu} : ∀ k, (md_steps a z k x).2.2.2.2.2.2.2.2.2.2.2.2.2.2.2 = x.2.2.2.2.2.2.2.2.2.2.2.2.2.2.2
  | 0 => rfl
  | k + 1 => (md_ask_mw _ _ _).2.trans (md_steps_mt k)
theorem fm_up (a : Nat) (z : Int) (h : 0 ≤ (a : Int) + z + 1024) : nI a + Int32.ofInt z + 1024 = nI ((a : Int) + z + 1024).toNat := by
  rw [nI_ofInt, add_ofInt, nI_ofInt, Int.toNat_of_nonneg h]
  exact add_ofInt ((a : Int) + z) 1024
/-- sizes that fit, as the script has them -/
def okS (x y : Int32) : Prop := (x = 1 ∨ x = 2 ∨ x = 4 ∨ x = 8 ∨ x = 16) ∧ 0 ≤ y ∧ y ≤ 8
theorem md_bhs_many {x : MDu} : ∀ i, (md_bhs i x).2.2.2.2.2.2.1 = x.2.2.2.2.2.2.1 ∧ (md_bhs i x).2.2.1 = x.2.2.1 ∧ (md_bhs i x).2.2.2.2.1 = x.2.2.2.2.1
  | 0 => ⟨rfl, rfl, rfl⟩
  | i + 1 => by
    obtain ⟨e1, e2, e3⟩ := md_bhs_many (x := x) i
    unfold md_bhs
    generalize md_bhs i x = y at e1 e2 e3 ⊢
    obtain ⟨mw, mh, ms, mp, ml, mb, mm, md, mc, mhi, msw, mmi, mhc, ma, mq, mt⟩ := y
    unfold md_goes
    dsimp only
    split
    · exact ⟨e1, e2, e3⟩
    · exact ⟨e1, e2, e3⟩
theorem md_bhs_s (i : Nat) (x : MDu) : md_bhs (i + 1) x = md_goes 0 i (md_bhs i x) := rfl
def md_all (x : MDu) : MDu := md_bhs 256 x
theorem md_all_many (x : MDu) : (md_all x).2.2.2.2.2.2.1 = x.2.2.2.2.2.2.1 ∧ (md_all x).2.2.1 = x.2.2.1 ∧ (md_all x).2.2.2.2.1 = x.2.2.2.2.1 := by
  unfold md_all
  generalize (256 : Nat) = k
  exact md_bhs_many k
theorem md_bhs_dt {x : MDu} : ∀ i j, md_dt (md_bhs i x) j = if j < i then false else md_dt x j
  | 0, j => by rw [if_neg (Nat.not_lt_zero j)]; rfl
  | i + 1, j => by
    have e1 := md_bhs_dt (x := x) i
    unfold md_bhs
    generalize md_bhs i x = y at e1 ⊢
    obtain ⟨mw, mh, ms, mp, ml, mb, mm, md, mc, mhi, msw, mmi, mhc, ma, mq, mt⟩ := y
    have e1 : ∀ j, md j = if j < i then false else md_dt x j := e1
    unfold md_goes
    dsimp only
    split
    · rename_i hc
      show ru md (256 * 0 + i) false j = _
      unfold ru
      by_cases hj : j = i
      · rw [if_pos (by omega), if_pos (by omega)]
      · rw [if_neg (by omega), e1 j]
        by_cases h2 : j < i
        · rw [if_pos h2, if_pos (by omega)]
        · rw [if_neg h2, if_neg (by omega)]
    · rename_i hc
      show md j = _
      rw [e1 j]
      by_cases hj : j = i
      · subst hj
        rw [if_neg (Nat.lt_irrefl _), if_pos (by omega)]
        have h3 := e1 j
        rw [if_neg (Nat.lt_irrefl _)] at h3
        rw [← h3]
        rw [show 256 * 0 + j = j by omega] at hc
        exact Bool.eq_false_iff.mpr hc
      · by_cases h2 : j < i
        · rw [if_pos h2, if_pos (by omega)]
        · rw [if_neg h2, if_neg (by omega)]
theorem md_ask_ne {x : MDu} {q v : Nat} {b : Bool} {mw1 : Nat → Int32} {mh1 : Nat → Int32} {ms1 : Nat → Nat} {mp1 : Nat → Nat} {ml1 : Nat → Option Nat} {mb1 : Nat → Nat} {mm1 : Nat → Nat} {md1 : Nat → Bool} {mc1 : Nat → Int32} {mhi1 : Int32} {msw1 : Int32} {mmi1 : Int32} {mhc1 : Int32} {ma1 : Nat → Nat} {mq1 : Nat} {mt1 : Nat} (h : (mw1, mh1, ms1, mp1, ml1, mb1, mm1, md1, mc1, mhi1, msw1, mmi1, mhc1, ma1, mq1, mt1) = md_acc 0 q x) (hv : v = md_what 0 q x) (hn : mq1 ≠ 150) : md_ask q b x = (mw1, mh1, ms1, mp1, ml1, mb1, mm1, if b then ru md1 q true else md1, mc1, mhi1 + (if v = 0 then 1 else 0), msw1 + (if v = 1 then 1 else 0), mmi1 + (if v = 2 then 1 else 0), mhc1, ru ma1 mq1 (2 * q + (if b then 1 else 0)), mq1 + 1, mt1) := by
  unfold md_ask
  rw [← h, ← hv]
  exact if_neg hn
theorem md_ask_eq {x : MDu} {q v : Nat} {b : Bool} {mw1 : Nat → Int32} {mh1 : Nat → Int32} {ms1 : Nat → Nat} {mp1 : Nat → Nat} {ml1 : Nat → Option Nat} {mb1 : Nat → Nat} {mm1 : Nat → Nat} {md1 : Nat → Bool} {mc1 : Nat → Int32} {mhi1 : Int32} {msw1 : Int32} {mmi1 : Int32} {mhc1 : Int32} {ma1 : Nat → Nat} {mq1 : Nat} {mt1 : Nat} (h : (mw1, mh1, ms1, mp1, ml1, mb1, mm1, md1, mc1, mhi1, msw1, mmi1, mhc1, ma1, mq1, mt1) = md_acc 0 q x) (hv : v = md_what 0 q x) (hn : mq1 = 150) : md_ask q b x = (mw1, mh1, ms1, mp1, ml1, mb1, mm1, if b then ru md1 q true else md1, mc1, mhi1 + (if v = 0 then 1 else 0), msw1 + (if v = 1 then 1 else 0), mmi1 + (if v = 2 then 1 else 0), mhc1, ru (shl ma1 0 149) 149 (2 * q + (if b then 1 else 0)), 150, mt1) := by
  unfold md_ask
  rw [← h, ← hv]
  exact if_pos hn
theorem md_goes_n {x : MDu} {w q : Nat} (h : md_dt x (256 * w + q) = false) : md_goes w q x = x := by
  obtain ⟨mw, mh, ms, mp, ml, mb, mm, md, mc, mhi, msw, mmi, mhc, ma, mq, mt⟩ := x
  have h : md (256 * w + q) = false := h
  unfold md_goes
  dsimp only
  rw [if_neg (by rw [h]; exact Bool.false_ne_true)]
theorem md_goes_y {x : MDu} {w q : Nat} (h : md_dt x (256 * w + q) = true) : md_goes w q x = md_comes w q x := by
  obtain ⟨mw, mh, ms, mp, ml, mb, mm, md, mc, mhi, msw, mmi, mhc, ma, mq, mt⟩ := x
  exact if_pos h
theorem md_acc_ms (w q : Nat) (x : MDu) : (md_acc w q x).2.2.1 = x.2.2.1 := by
  have hg : ∀ (w q : Nat) (x : MDu), (md_goes w q x).2.2.1 = x.2.2.1 := by
    intro w q x
    obtain ⟨mw1, mh1, ms1, mp1, ml1, mb1, mm1, md1, mc1, mhi1, msw1, mmi1, mhc1, ma1, mq1, mt1⟩ := x
    unfold md_goes
    dsimp only
    split
    · rfl
    · rfl
  have hs : ∀ (w q : Nat) (x : MDu), (md_sits w q x).2.2.1 = x.2.2.1 := fun _ _ _ => rfl
  have hp : ∀ (w s q : Nat) (x : MDu), (md_put w s q x).2.2.1 = x.2.2.1 := fun _ _ _ _ => rfl
  obtain ⟨mw, mh, ms, mp, ml, mb, mm, md, mc, mhi, msw, mmi, mhc, ma, mq, mt⟩ := x
  unfold md_acc
  dsimp only
  split
  · split
    · rfl
    · rfl
  · split
    · rfl
    · split
      · rw [hp]
        unfold md_throws
        dsimp only [md_cost]
        split
        · rw [hg]
        · split
          · rw [hs, hg]
          · rfl
      · rfl
theorem md_try_ms {x : MDu} : ∀ k, (md_try k x).2.2.1 = x.2.2.1
  | 0 => rfl
  | k + 1 => by
    show (md_mark _ _ (md_acc 1 _ (md_try k x))).2.2.1 = _
    exact (md_acc_ms 1 _ _).trans (md_try_ms k)
theorem md_tried_ms (s' p' : Nat) (x : MDu) : (md_tried s' p' x).2.2.1 0 = x.2.2.1 0 := by
  unfold md_tried
  rw [md_try_ms]
  obtain ⟨mw, mh, ms, mp, ml, mb, mm, md, mc, mhi, msw, mmi, mhc, ma, mq, mt⟩ := x
  show ru ms 1 s' 0 = ms 0
  exact ru_n ms s' (show (0 : Nat) ≠ 1 by decide)
theorem md_tried_asked (s' p' : Nat) (x : MDu) : md_asked (md_tried s' p' x) = md_asked x ∧ md_many (md_tried s' p' x) = md_many x := md_try_asked _
theorem md_try_t {k : Nat} {x : MDu} (h : md_asked x k % 2 = 1) : md_try (k + 1) x = md_mark (256 + md_asked x k / 2) true (md_acc 1 (md_asked x k / 2) (md_try k x)) := by
  show md_mark _ (decide _) _ = _
  rw [decide_eq_true h]
theorem md_try_f {k : Nat} {x : MDu} (h : md_asked x k % 2 ≠ 1) : md_try (k + 1) x = md_acc 1 (md_asked x k / 2) (md_try k x) := by
  show md_mark _ (decide _) _ = _
  rw [decide_eq_false h]
  rfl

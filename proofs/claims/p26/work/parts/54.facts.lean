/-! what the law's look at the whole counts -/
def lnC (u : CBu) (j : Nat) : Nat := cnt (fun s => (cb_ln u s).isSome) j
def w1C (u : CBu) (i : Nat) : Nat := cnt (fun q => decide (cb_where q u = 1)) i
def w2C (u : CBu) (i : Nat) : Nat := cnt (fun q => decide (cb_where q u = 2)) i
def dtC (u : CBu) (i : Nat) : Nat := cnt (cb_dt u) i
theorem lnC_none {u : CBu} {j : Nat} (h : cb_ln u j = none) : lnC u (j + 1) = lnC u j := by
  unfold lnC
  exact cnt_n (p := fun s => (cb_ln u s).isSome) (n := j) (show (cb_ln u j).isSome = false by rw [h]; rfl)
theorem lnC_some {u : CBu} {j q : Nat} (h : cb_ln u j = some q) : lnC u (j + 1) = lnC u j + 1 := by
  unfold lnC
  exact cnt_s (p := fun s => (cb_ln u s).isSome) (n := j) (show (cb_ln u j).isSome = true by rw [h]; rfl)
theorem w1_step {u : CBu} {i : Nat} {x y : Int32} (hx : x = if cb_where i u = 1 then 1 else 0) : y - nI (w1C u i) - x = y - nI (w1C u (i + 1)) := by
  unfold w1C
  by_cases h : cb_where i u = 1
  · rw [cnt_s (p := fun q => decide (cb_where q u = 1)) (n := i) (decide_eq_true h), hx, if_pos h, Int32.sub_sub, nI_succ]
  · rw [cnt_n (p := fun q => decide (cb_where q u = 1)) (n := i) (decide_eq_false h), hx, if_neg h, Int32.sub_zero]
theorem w2_step {u : CBu} {i : Nat} {x : Int32} (hx : x = if cb_where i u = 2 then 1 else 0) : nI (w2C u i) + x = nI (w2C u (i + 1)) := by
  unfold w2C
  by_cases h : cb_where i u = 2
  · rw [cnt_s (p := fun q => decide (cb_where q u = 2)) (n := i) (decide_eq_true h), hx, if_pos h, nI_succ]
  · rw [cnt_n (p := fun q => decide (cb_where q u = 2)) (n := i) (decide_eq_false h), hx, if_neg h, Int32.add_zero]
theorem dt_step {u : CBu} {i : Nat} {x : Int32} (hx : x = if cb_dt u i = true then 1 else 0) : nI (dtC u i) + x = nI (dtC u (i + 1)) := by
  unfold dtC
  by_cases h : cb_dt u i = true
  · rw [cnt_s (p := cb_dt u) (n := i) h, hx, if_pos h, nI_succ]
  · rw [cnt_n (p := cb_dt u) (n := i) (Bool.eq_false_iff.mpr h), hx, if_neg h, Int32.add_zero]
theorem w1_all {u : CBu} (h : Ok 256 u) : nI (lnC u u.1) - nI (w1C u 256) = 0 := by
  have e : w1C u 256 = lnC u u.1 := cnt_w1 h
  rw [e, Int32.sub_self]
theorem w1_none (u : CBu) : nI (lnC u u.1) = nI (lnC u u.1) - nI (w1C u 0) := (Int32.sub_zero _).symm
theorem w2_all {u : CBu} (h : Ok 256 u) : w2C u 256 = u.2.2.2.2.1 := cnt_w2 h
theorem dt_all (u : CBu) : dtC u 256 = cb_dirty u := by
  unfold dtC
  exact (dirty_eq u).symm
theorem lnC_le (u : CBu) (j : Nat) : lnC u j ≤ j := cnt_le _ _
theorem w2C_le (u : CBu) (j : Nat) : w2C u j ≤ j := cnt_le _ _
theorem dtC_le (u : CBu) (j : Nat) : dtC u j ≤ j := cnt_le _ _
theorem dirty_256 (u : CBu) : cb_dirty u ≤ 256 := by
  rw [dirty_eq]
  exact cnt_le _ _
theorem ok_sizes {u : CBu} (h : Ok 256 u) : (u.1 = 1 ∨ u.1 = 2 ∨ u.1 = 4 ∨ u.1 = 8 ∨ u.1 = 16) ∧ u.2.1 ≤ 8 ∧ u.2.2.2.2.1 ≤ u.2.1 := by
  obtain ⟨sc, pl, ln, bn, n, dt, hi, sw, mi, hc, co⟩ := u
  exact ⟨h.1, h.2.1, h.2.2.1⟩
theorem ok_line {u : CBu} {j q : Nat} (h : Ok 256 u) (hl : cb_ln u j = some q) : q % u.1 = j ∧ q < 256 ∧ cb_where q u = 1 := by
  obtain ⟨sc, pl, ln, bn, n, dt, hi, sw, mi, hc, co⟩ := u
  obtain ⟨a1, a2, a3, a4, a5, a6, a7⟩ := h
  have hl : ln j = some q := hl
  obtain ⟨b1, b2, b3, -⟩ := a4 j q hl
  refine ⟨b2, b3, where_1.mpr ?_⟩
  show ln (q % sc) = some q
  rw [b2]
  exact hl
theorem ok_bench {u : CBu} {k : Nat} (h : Ok 256 u) (hk : k < u.2.2.2.2.1) : u.2.2.2.1 k < 256 ∧ cb_where (u.2.2.2.1 k) u = 2 ∧ cb_ln u (u.2.2.2.1 k % u.1) ≠ some (u.2.2.2.1 k) := by
  have h2 := (where_2 h).mpr ⟨k, hk, rfl⟩
  obtain ⟨sc, pl, ln, bn, n, dt, hi, sw, mi, hc, co⟩ := u
  obtain ⟨a1, a2, a3, a4, a5, a6, a7⟩ := h
  exact ⟨(a5 k hk).1, h2, (a5 k hk).2.2⟩
theorem ok_twice {u : CBu} {i j : Nat} (h : Ok 256 u) (hi : i < u.2.2.2.2.1) (hj : j < u.2.2.2.2.1) (hij : i ≠ j) : u.2.2.2.1 i ≠ u.2.2.2.1 j := by
  obtain ⟨sc, pl, ln, bn, n, dt, hi, sw, mi, hc, co⟩ := u
  obtain ⟨a1, a2, a3, a4, a5, a6, a7⟩ := h
  exact fun e => hij (a6 i j hi hj e)
theorem oI_ne {u : CBu} {k q : Nat} (h : Ok 256 u) (hq : q < 256) (ho : cb_ln u k ≠ some q) : oI (cb_ln u k) ≠ nI q := by
  cases e : cb_ln u k with
  | none => exact fun e2 => nI_m1 (show q < 2 ^ 31 by omega) e2.symm
  | some r =>
    have hr := (ok_line h e).2.1
    intro e2
    have := nI_inj (a := r) (b := q) (by omega) (by omega) e2
    exact ho (by rw [e, this])

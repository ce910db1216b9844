/-! what the law keeps true from turn to turn -/
def ads (s : Nat) : Nat := 128 * (s / 8) + s % 8 + s / 8
theorem ads_lt {s : Nat} (h : s < 64) : ads s < 1024 := by
  unfold ads
  omega
theorem ads_inj {s t : Nat} (h : ads s = ads t) : s = t := by
  unfold ads at h
  omega
def Num (C A : Nat) (u : CBu) (la : LAu) : Prop := Ok 256 u ∧ la_bd la ∧ CF u ∧ ∃ c a : Nat, cb_co u = nI c ∧ c ≤ C ∧ cb_hi u + cb_sw u + cb_mi u = nI a ∧ a ≤ A ∧ la_cnt la = min a 150
theorem Num.le {C A C2 A2 : Nat} {u : CBu} {la : LAu} (h : Num C A u la) (hC : C ≤ C2) (hA : A ≤ A2) : Num C2 A2 u la := by
  obtain ⟨h1, h2, h3, c, a, h4, h5, h6, h7, h8⟩ := h
  exact ⟨h1, h2, h3, c, a, h4, by omega, h6, by omega, h8⟩
theorem Num.gr {C A d a : Nat} {u v : CBu} {la lb : LAu} (h : Num C A u la) (g : Gr u v d a) (hv : Ok 256 v) (hl : la_bd lb) (hc : ∀ n, la_cnt la = min n 150 → la_cnt lb = min (n + a) 150) : Num (C + d) (A + a) v lb := by
  obtain ⟨h1, h2, h3, c, n, h4, h5, h6, h7, h8⟩ := h
  obtain ⟨g1, g2, g3⟩ := g
  refine ⟨hv, hl, g3 h3, c + d, n + a, ?_, by omega, ?_, by omega, hc n h8⟩
  · rw [g1, h4, nI_add]
  · rw [g2, h6, nI_add]
theorem cnt_add {q n : Nat} {w : Bool} {la : LAu} (h : la_cnt la = min n 150) : la_cnt (la_add q w la) = min (n + 1) 150 := by
  obtain ⟨ll, lw, lc, lx⟩ := la
  have h : lc = min n 150 := h
  show (if lc < 150 then lc + 1 else lc) = min (n + 1) 150
  by_cases hl : lc < 150
  · rw [if_pos hl]
    omega
  · rw [if_neg hl]
    omega
theorem num_acc {C A q : Nat} {w : Bool} {u : CBu} {la : LAu} (h : Num C A u la) (hq : q < 256) : Num (C + 30) (A + 1) (cb_acc q w u) (la_add q w la) := by
  obtain ⟨d, d1, d2, g⟩ := gr_acc q w u
  exact (h.gr g (ok_acc h.1 hq) (la_bd_add w hq h.2.1) (fun n hn => cnt_add hn)).le (by omega) (Nat.le_refl _)
theorem num_walk {C A a : Nat} {z : Int} {u : CBu} {la : LAu} (h : Num C A u la) (ha : a < 1024) : ∀ k, Num (C + 30 * k) (A + k) (ob_walk a z k u la).1 (ob_walk a z k u la).2
  | 0 => h
  | k + 1 => (num_acc (num_walk (z := z) h ha k) (by have := adr_lt z ha k; omega)).le (by omega) (by omega)
theorem num_throw {C A s : Nat} {u : CBu} {la : LAu} (h : Num C A u la) : Num (C + 10) A (cb_throw s u) la := by
  obtain ⟨d, d1, g⟩ := gr_throw s u
  exact (h.gr g (ok_throw h.1) h.2.1 (fun n hn => hn)).le (by omega) (Nat.le_refl _)
theorem num_empty {C A s' p' : Nat} {u : CBu} {la : LAu} (h : Num C A u la) (hs : s' = 1 ∨ s' = 2 ∨ s' = 4 ∨ s' = 8 ∨ s' = 16) (hp : p' ≤ 8) : Num C A (cb_empty s' p' u) la := by
  have g : Gr u (cb_empty s' p' u) 0 0 := by
    obtain ⟨sc, pl, ln, bn, n, dt, hi, sw, mi, hc, co⟩ := u
    exact Gr.same rfl rfl rfl rfl rfl
  exact h.gr g (ok_empty u hs hp) h.2.1 (fun n hn => hn)
/-! all brought home -/
theorem bring_all {N : Nat} {u : CBu} (h : Ok N u) (hN : N = 256) : cb_hc (cb_bring u) = cb_hc u + nI (cnt (cb_dt u) N) ∧ Gr u (cb_bring u) (10 * cnt (cb_dt u) N) 0 ∧ cnt (cb_dt (cb_bring u)) N = 0 ∧ Ok N (cb_bring u) ∧ ∀ j, j < N → cb_dt (cb_bring u) j = false := by
  obtain ⟨h1, h2⟩ := bring_I h hN
  have h3 := ok_BhI hN h h1 h2
  have h4 : cnt (cb_dt (cb_bring u)) N = 0 := cnt_zero h2
  refine ⟨?_, ?_, h4, h3, h2⟩
  · generalize cb_bring u = v at h1 h4
    obtain ⟨sc1, pl1, ln1, bn1, n1, dt1, hi1, sw1, mi1, hc1, co1⟩ := u
    obtain ⟨sc, pl, ln, bn, n, dt, hi, sw, mi, hc, co⟩ := v
    obtain ⟨-, b1, -⟩ := h1
    have h4 : cnt dt N = 0 := h4
    rw [h4, add_nI0] at b1
    exact b1
  · generalize cb_bring u = v at h1 h4
    obtain ⟨sc1, pl1, ln1, bn1, n1, dt1, hi1, sw1, mi1, hc1, co1⟩ := u
    obtain ⟨sc, pl, ln, bn, n, dt, hi, sw, mi, hc, co⟩ := v
    obtain ⟨⟨a1, a2, a3, a4, a5, a6, a7, a8⟩, b1, b2, -⟩ := h1
    have h4 : cnt dt N = 0 := h4
    rw [h4, add_nI0] at b1
    rw [h4, Nat.mul_zero, add_nI0] at b2
    subst a6
    subst a7
    subst a8
    refine ⟨b2, (add_nI0 _).symm, fun e => ?_⟩
    have e : co1 = hi + nI 3 * sw + nI 20 * mi + nI 10 * hc1 := e
    show co = hi + nI 3 * sw + nI 20 * mi + nI 10 * hc
    rw [b2, b1, Int32.mul_add, pk_mul, e, ← Int32.add_assoc]
theorem dirty_eq (u : CBu) : cb_dirty u = cnt (cb_dt u) 256 := rfl
theorem bring_law {u : CBu} (h : Ok 256 u) : cb_hc (cb_bring u) - cb_hc u = nI (cb_dirty u) ∧ cb_dirty (cb_bring u) = 0 ∧ cb_co (cb_bring u) = cb_co u + nI (10 * cb_dirty u) := by
  obtain ⟨h1, ⟨h2, -⟩, h3, -⟩ := bring_all h rfl
  rw [dirty_eq, dirty_eq]
  refine ⟨?_, h3, h2⟩
  rw [h1, Int32.add_comm (cb_hc u), Int32.add_sub_cancel]
theorem num_bring {C A : Nat} {u : CBu} {la : LAu} (h : Num C A u la) : Num (C + 2560) A (cb_bring u) la := by
  obtain ⟨-, g, -, hv, -⟩ := bring_all h.1 rfl
  have hc := cnt_le (cb_dt u) 256
  exact (h.gr g hv h.2.1 (fun n hn => hn)).le (by omega) (Nat.le_refl _)
/-! one access: where its line is then -/
theorem acc_in (q : Nat) (w : Bool) (u : CBu) : cb_where q (cb_acc q w u) = 1 := by
  refine where_1.mpr ?_
  unfold cb_acc
  split
  · rename_i h
    obtain ⟨sc, pl, ln, bn, n, dt, hi, sw, mi, hc, co⟩ := u
    exact h
  · split
    · have e := (throw_ln (q % cb_sc u) (cb_missed u)).2
      have e2 : cb_sc (cb_missed u) = cb_sc u := by
        obtain ⟨sc, pl, ln, bn, n, dt, hi, sw, mi, hc, co⟩ := u
        rfl
      rw [e2] at e
      generalize cb_throw (q % cb_sc u) (cb_missed u) = v at e ⊢
      obtain ⟨sc, pl, ln, bn, n, dt, hi, sw, mi, hc, co⟩ := v
      have e : sc = cb_sc u := e
      show ru ln (q % cb_sc u) (some q) (q % sc) = some q
      rw [e, ru_s]
    · rename_i k hk
      have e := (throw_ln (q % cb_sc u) (cb_leave k (cb_swapped u))).2
      have e2 : cb_sc (cb_leave k (cb_swapped u)) = cb_sc u := by
        obtain ⟨sc, pl, ln, bn, n, dt, hi, sw, mi, hc, co⟩ := u
        rfl
      rw [e2] at e
      generalize cb_throw (q % cb_sc u) (cb_leave k (cb_swapped u)) = v at e ⊢
      obtain ⟨sc, pl, ln, bn, n, dt, hi, sw, mi, hc, co⟩ := v
      have e : sc = cb_sc u := e
      show ru ln (q % cb_sc u) (some q) (q % sc) = some q
      rw [e, ru_s]
theorem acc_dirty (q : Nat) (u : CBu) : cb_dt (cb_acc q true u) q = true := by
  unfold cb_acc
  split
  · obtain ⟨sc, pl, ln, bn, n, dt, hi, sw, mi, hc, co⟩ := u
    exact ru_s _ _ _
  · split
    · generalize cb_throw (q % cb_sc u) (cb_missed u) = v
      obtain ⟨sc, pl, ln, bn, n, dt, hi, sw, mi, hc, co⟩ := v
      exact ru_s _ _ _
    · rename_i k hk
      generalize cb_throw (q % cb_sc u) (cb_leave k (cb_swapped u)) = v
      obtain ⟨sc, pl, ln, bn, n, dt, hi, sw, mi, hc, co⟩ := v
      exact ru_s _ _ _
theorem hi_throw (s : Nat) (u : CBu) : cb_hi (cb_throw s u) = cb_hi u := by
  obtain ⟨sc, pl, ln, bn, n, dt, hi, sw, mi, hc, co⟩ := u
  unfold cb_throw
  dsimp only
  split
  · rfl
  · split
    · rfl
    · split
      · rfl
      · rfl
theorem hi_hit {q : Nat} (w : Bool) {u : CBu} (h : cb_where q u = 1) : cb_hi (cb_acc q w u) = cb_hi u + nI 1 := by
  unfold cb_acc
  rw [if_pos (where_1.mp h)]
  obtain ⟨sc, pl, ln, bn, n, dt, hi, sw, mi, hc, co⟩ := u
  rfl
theorem hi_not {q : Nat} (w : Bool) {u : CBu} (h : cb_where q u ≠ 1) : cb_hi (cb_acc q w u) = cb_hi u + nI 0 := by
  rw [add_nI0]
  unfold cb_acc
  rw [if_neg (fun e => h (where_1.mpr e))]
  split
  · have e := hi_throw (q % cb_sc u) (cb_missed u)
    have e2 : cb_hi (cb_missed u) = cb_hi u := by
      obtain ⟨sc, pl, ln, bn, n, dt, hi, sw, mi, hc, co⟩ := u
      rfl
    rw [e2] at e
    rw [← e]
    generalize cb_throw (q % cb_sc u) (cb_missed u) = v
    obtain ⟨sc, pl, ln, bn, n, dt, hi, sw, mi, hc, co⟩ := v
    rfl
  · rename_i k hk
    have e := hi_throw (q % cb_sc u) (cb_leave k (cb_swapped u))
    have e2 : cb_hi (cb_leave k (cb_swapped u)) = cb_hi u := by
      obtain ⟨sc, pl, ln, bn, n, dt, hi, sw, mi, hc, co⟩ := u
      rfl
    rw [e2] at e
    rw [← e]
    generalize cb_throw (q % cb_sc u) (cb_leave k (cb_swapped u)) = v
    obtain ⟨sc, pl, ln, bn, n, dt, hi, sw, mi, hc, co⟩ := v
    rfl
/-! a line thrown by hand -/
theorem cast_pl (k : Nat) (u : CBu) : (cb_throw k u).2.1 = u.2.1 ∧ (cb_throw k u).1 = u.1 := by
  obtain ⟨sc, pl, ln, bn, n, dt, hi, sw, mi, hc, co⟩ := u
  unfold cb_throw
  dsimp only
  split
  · exact ⟨rfl, rfl⟩
  · split
    · exact ⟨rfl, rfl⟩
    · split
      · exact ⟨rfl, rfl⟩
      · exact ⟨rfl, rfl⟩
theorem cast_0 {k q : Nat} {u : CBu} (h : Ok 256 u) (hk : cb_ln u k = some q) (hp : u.2.1 = 0) : cb_where q (cb_throw k u) = 0 := by
  obtain ⟨sc, pl, ln, bn, n, dt, hi, sw, mi, hc, co⟩ := u
  obtain ⟨a1, a2, a3, a4, a5, a6, a7⟩ := h
  have hk : ln k = some q := hk
  have hp : pl = 0 := hp
  have hq := (a4 k q hk).2.1
  have hn : n = 0 := by omega
  unfold cb_throw
  dsimp only
  rw [hk]
  dsimp only
  rw [if_pos hp]
  show (if ru ln k none (q % sc) = some q then 1 else if (fnd (fun k => decide (bn k = q)) n).isSome = true then 2 else 0) = 0
  rw [hq, ru_s, hn]
  rfl
theorem cast_1 {k q : Nat} {u : CBu} (hk : cb_ln u k = some q) (hp : u.2.1 ≠ 0) : 0 < (cb_throw k u).2.2.2.2.1 ∧ (cb_throw k u).2.2.2.1 ((cb_throw k u).2.2.2.2.1 - 1 - 0) = q := by
  obtain ⟨sc, pl, ln, bn, n, dt, hi, sw, mi, hc, co⟩ := u
  have hk : ln k = some q := hk
  have hp : pl ≠ 0 := hp
  unfold cb_throw
  dsimp only
  rw [hk]
  dsimp only
  rw [if_neg hp]
  by_cases hn : pl ≤ n
  · rw [if_pos hn]
    refine ⟨Nat.succ_pos _, ?_⟩
    show ru (shl bn 0 (n - 1)) (n - 1) q (n - 1 + 1 - 1 - 0) = q
    rw [show n - 1 + 1 - 1 - 0 = n - 1 by omega, ru_s]
  · rw [if_neg hn]
    refine ⟨Nat.succ_pos _, ?_⟩
    show ru bn n q (n + 1 - 1 - 0) = q
    rw [show n + 1 - 1 - 0 = n by omega, ru_s]
theorem cast_2 {k q : Nat} {u : CBu} (h : Ok 256 u) (hk : cb_ln u k = some q) (hp : u.2.1 ≠ 0) : cb_where q (cb_throw k u) = 2 := by
  obtain ⟨h1, h2⟩ := cast_1 hk hp
  exact (where_2 (ok_throw h)).mpr ⟨_, by omega, h2⟩
/-! from turn to turn -/
def LInv (k : Nat) (wr w : Nat → Int32) (u : CBu) (la : LAu) : Prop := Num (2560 * k) (30 * k) u la ∧ ∀ s, s < 64 → w s = wr (ads s)
theorem linv_same {k : Nat} {wr w : Nat → Int32} {u : CBu} {la : LAu} (h : LInv k wr w u la) : LInv (k + 1) wr w u la := ⟨h.1.le (by omega) (by omega), h.2⟩
theorem linv_read {k q : Nat} {b : Bool} {wr w : Nat → Int32} {u : CBu} {la : LAu} (h : LInv k wr w u la) (hq : q < 256) : LInv (k + 1) wr w (cb_acc q b u) (la_add q b la) := ⟨(num_acc h.1 hq).le (by omega) (by omega), h.2⟩
theorem linv_write {k s : Nat} {v : Int32} {wr w : Nat → Int32} {u : CBu} {la : LAu} (h : LInv k wr w u la) (hs : s < 64) : LInv (k + 1) (ru wr (ads s) v) (ru w s v) (cb_acc (ads s / 4) true u) (la_add (ads s / 4) true la) := by
  have ha := ads_lt hs
  refine ⟨(num_acc h.1 (by omega)).le (by omega) (by omega), fun t ht => ?_⟩
  by_cases e : t = s
  · rw [e, ru_s, ru_s]
  · rw [ru_n w v e, ru_n wr v (fun e2 => e (ads_inj e2)), h.2 t ht]
theorem linv_walk {k a n : Nat} {z : Int} {wr w : Nat → Int32} {u : CBu} {la : LAu} (h : LInv k wr w u la) (ha : a < 1024) (hn : n ≤ 30) : LInv (k + 1) wr w (ob_walk a z n u la).1 (ob_walk a z n u la).2 := ⟨(num_walk h.1 ha n).le (by omega) (by omega), h.2⟩
theorem linv_bring {k : Nat} {wr w : Nat → Int32} {u : CBu} {la : LAu} (h : LInv k wr w u la) : LInv (k + 1) wr w (cb_bring u) la := ⟨(num_bring h.1).le (by omega) (by omega), h.2⟩
theorem linv_build {k s' p' : Nat} {wr w : Nat → Int32} {u : CBu} {la : LAu} (h : LInv k wr w u la) (hs : s' = 1 ∨ s' = 2 ∨ s' = 4 ∨ s' = 8 ∨ s' = 16) (hp : p' ≤ 8) : LInv (k + 1) wr w (cb_empty s' p' (cb_bring u)) la := ⟨(num_empty (num_bring h.1) hs hp).le (by omega) (by omega), h.2⟩
theorem linv_cast {k s : Nat} {wr w : Nat → Int32} {u : CBu} {la : LAu} (h : LInv k wr w u la) : LInv (k + 1) wr w (cb_throw s u) la := ⟨(num_throw h.1).le (by omega) (by omega), h.2⟩
theorem linv_new : LInv 0 (fun _ => 0) (fun _ => 0) cb_new la_new := by
  refine ⟨⟨⟨Or.inr (Or.inr (Or.inl rfl)), by decide, by decide, fun s q h => absurd h (by intro e; cases e), fun k hk => absurd hk (Nat.not_lt_zero _), fun i j hi => absurd hi (Nat.not_lt_zero _), fun q _ _ h => Bool.noConfusion h⟩, ⟨Nat.zero_le _, by decide, fun k _ => by show 0 < 256; decide⟩, by unfold CF; decide, 0, 0, by decide, Nat.le_refl _, by decide, Nat.le_refl _, rfl⟩, fun s _ => rfl⟩

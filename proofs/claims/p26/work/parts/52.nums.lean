/-! counting one to one; where lines are; what an access costs and counts -/
theorem cnt_inj {N : Nat} {f : Nat → Option Nat} : ∀ (m : Nat) (p : Nat → Bool), (∀ s q, s < m → f s = some q → q < N) → (∀ s t q, s < m → t < m → f s = some q → f t = some q → s = t) → (∀ q, q < N → (p q = true ↔ ∃ s, s < m ∧ f s = some q)) → cnt p N = cnt (fun s => (f s).isSome) m
  | 0, p, _, _, h => cnt_zero (fun j hj => by
      cases hp : p j with
      | false => rfl
      | true =>
        obtain ⟨s, hs, _⟩ := (h j hj).mp hp
        exact absurd hs (Nat.not_lt_zero s))
  | m + 1, p, hN, hi, h => by
    cases hf : f m with
    | none =>
      have ih := cnt_inj m p (fun s q hs => hN s q (by omega)) (fun s t q hs ht => hi s t q (by omega) (by omega)) (fun q hq => by
        rw [h q hq]
        refine ⟨fun ⟨s, hs, e⟩ => ?_, fun ⟨s, hs, e⟩ => ⟨s, by omega, e⟩⟩
        have hsm : s ≠ m := by
          intro e2
          rw [e2, hf] at e
          cases e
        exact ⟨s, by omega, e⟩)
      rw [ih, cnt_n (p := fun s => (f s).isSome) (n := m) (show (f m).isSome = false by rw [hf]; rfl)]
    | some q0 =>
      have h0 : q0 < N := hN m q0 (by omega) hf
      have hp0 : p q0 = true := (h q0 h0).mpr ⟨m, by omega, hf⟩
      have ih := cnt_inj m (ru p q0 false) (fun s q hs => hN s q (by omega)) (fun s t q hs ht => hi s t q (by omega) (by omega)) (fun q hq => by
        by_cases hqq : q = q0
        · subst hqq
          rw [ru_s]
          refine ⟨fun e => Bool.noConfusion e, fun ⟨s, hs, e⟩ => ?_⟩
          have := hi s m q (by omega) (by omega) e hf
          omega
        · rw [ru_n p false hqq, h q hq]
          refine ⟨fun ⟨s, hs, e⟩ => ?_, fun ⟨s, hs, e⟩ => ⟨s, by omega, e⟩⟩
          have hsm : s ≠ m := by
            intro e2
            rw [e2, hf] at e
            exact hqq (Option.some.inj e).symm
          exact ⟨s, by omega, e⟩)
      have e := cnt_ru p q0 N
      rw [if_pos ⟨h0, hp0⟩] at e
      rw [cnt_s (p := fun s => (f s).isSome) (n := m) (show (f m).isSome = true by rw [hf]; rfl), ← ih]
      exact e.symm
theorem cnt_all {p : Nat → Bool} : ∀ {n : Nat}, (∀ j, j < n → p j = true) → cnt p n = n
  | 0, _ => rfl
  | n + 1, h => by rw [cnt_s (h n (by omega)), cnt_all (fun j hj => h j (by omega))]
theorem cnt_or {p q r : Nat → Bool} : ∀ {n : Nat}, (∀ j, j < n → p j = true → q j = true ∨ r j = true) → cnt p n ≤ cnt q n + cnt r n
  | 0, _ => Nat.le_refl _
  | n + 1, h => by
    have ih := cnt_or (p := p) (q := q) (r := r) (n := n) (fun j hj => h j (by omega))
    have h1 := h n (by omega)
    unfold cnt
    cases hp : p n <;> cases hq : q n <;> cases hr : r n <;> simp_all <;> omega
theorem fnd_ex {p : Nat → Bool} {n : Nat} : (fnd p n).isSome = true ↔ ∃ k, k < n ∧ p k = true := by
  cases h : fnd p n with
  | none =>
    refine ⟨fun e => Bool.noConfusion e, fun ⟨k, hk, hp⟩ => ?_⟩
    rw [fnd_of_none h k hk] at hp
    cases hp
  | some i =>
    obtain ⟨h1, h2, -⟩ := fnd_of_some h
    exact ⟨fun _ => ⟨i, h1, h2⟩, fun _ => rfl⟩
theorem where_eq (q : Nat) {sc : Nat} {pl : Nat} {ln : Nat → Option Nat} {bn : Nat → Nat} {n : Nat} {dt : Nat → Bool} {hi : Int32} {sw : Int32} {mi : Int32} {hc : Int32} {co : Int32} : cb_where q (sc, pl, ln, bn, n, dt, hi, sw, mi, hc, co) = if ln (q % sc) = some q then 1 else if (fnd (fun k => decide (bn k = q)) n).isSome = true then 2 else 0 := rfl
theorem where_1 {q : Nat} {u : CBu} : cb_where q u = 1 ↔ cb_ln u (q % cb_sc u) = some q := by
  obtain ⟨sc, pl, ln, bn, n, dt, hi, sw, mi, hc, co⟩ := u
  rw [where_eq]
  show _ ↔ ln (q % sc) = some q
  by_cases h : ln (q % sc) = some q
  · rw [if_pos h]
    exact ⟨fun _ => h, fun _ => rfl⟩
  · rw [if_neg h]
    refine ⟨fun e => ?_, fun e => absurd e h⟩
    by_cases h2 : (fnd (fun k => decide (bn k = q)) n).isSome = true
    · rw [if_pos h2] at e
      exact absurd e (by decide)
    · rw [if_neg h2] at e
      exact absurd e (by decide)
theorem where_2 {q : Nat} {u : CBu} (h : Ok 256 u) : cb_where q u = 2 ↔ ∃ k, k < u.2.2.2.2.1 ∧ u.2.2.2.1 k = q := by
  obtain ⟨sc, pl, ln, bn, n, dt, hi, sw, mi, hc, co⟩ := u
  obtain ⟨a1, a2, a3, a4, a5, a6, a7⟩ := h
  rw [where_eq]
  show _ ↔ ∃ k, k < n ∧ bn k = q
  constructor
  · intro e
    by_cases h1 : ln (q % sc) = some q
    · rw [if_pos h1] at e
      exact absurd e (by decide)
    · rw [if_neg h1] at e
      by_cases h2 : (fnd (fun k => decide (bn k = q)) n).isSome = true
      · obtain ⟨k, hk, hb⟩ := fnd_ex.mp h2
        exact ⟨k, hk, of_decide_eq_true hb⟩
      · rw [if_neg h2] at e
        exact absurd e (by decide)
  · intro ⟨k, hk, hb⟩
    have h1 : ln (q % sc) ≠ some q := by
      rw [← hb]
      exact (a5 k hk).2.2
    have h2 : (fnd (fun k => decide (bn k = q)) n).isSome = true := fnd_ex.mpr ⟨k, hk, decide_eq_true hb⟩
    rw [if_neg h1, if_pos h2]
theorem where_lt (q : Nat) (u : CBu) : cb_where q u = 0 ∨ cb_where q u = 1 ∨ cb_where q u = 2 := by
  obtain ⟨sc, pl, ln, bn, n, dt, hi, sw, mi, hc, co⟩ := u
  rw [where_eq]
  by_cases h : ln (q % sc) = some q
  · rw [if_pos h]
    exact Or.inr (Or.inl rfl)
  · rw [if_neg h]
    by_cases h2 : (fnd (fun k => decide (bn k = q)) n).isSome = true
    · rw [if_pos h2]
      exact Or.inr (Or.inr rfl)
    · rw [if_neg h2]
      exact Or.inl rfl
theorem where_dt {q : Nat} {u : CBu} (h : Ok 256 u) (hq : q < 256) (hd : cb_dt u q = true) : cb_where q u = 1 ∨ cb_where q u = 2 := by
  have h0 := h
  obtain ⟨sc, pl, ln, bn, n, dt, hi, sw, mi, hc, co⟩ := u
  obtain ⟨a1, a2, a3, a4, a5, a6, a7⟩ := h
  rcases a7 q hq (by omega) hd with c | c
  · exact Or.inl (where_1.mpr c)
  · exact Or.inr ((where_2 h0).mpr c)
theorem where_0 {q : Nat} {u : CBu} (h : Ok 256 u) (hq : q < 256) (h0 : cb_where q u = 0) : cb_dt u q = false := by
  cases hd : cb_dt u q with
  | false => rfl
  | true => rcases where_dt h hq hd with c | c <;> omega
theorem cnt_w1 {u : CBu} (h : Ok 256 u) : cnt (fun q => decide (cb_where q u = 1)) 256 = cnt (fun s => (cb_ln u s).isSome) u.1 := by
  obtain ⟨sc, pl, ln, bn, n, dt, hi, sw, mi, hc, co⟩ := u
  obtain ⟨a1, a2, a3, a4, a5, a6, a7⟩ := h
  refine cnt_inj (f := ln) sc _ (fun s q _ hs => (a4 s q hs).2.2.1) (fun s t q _ _ hs ht => ?_) (fun q hq => ?_)
  · have e1 := (a4 s q hs).2.1
    have e2 := (a4 t q ht).2.1
    omega
  · refine ⟨fun e => ⟨q % sc, Nat.mod_lt _ (okS_lt a1).1, where_1.mp (of_decide_eq_true e)⟩, fun ⟨s, hs, e⟩ => decide_eq_true (where_1.mpr ?_)⟩
    show ln (q % sc) = some q
    rw [(a4 s q e).2.1]
    exact e
theorem cnt_w2 {u : CBu} (h : Ok 256 u) : cnt (fun q => decide (cb_where q u = 2)) 256 = u.2.2.2.2.1 := by
  have h0 := h
  obtain ⟨sc, pl, ln, bn, n, dt, hi, sw, mi, hc, co⟩ := u
  obtain ⟨a1, a2, a3, a4, a5, a6, a7⟩ := h
  have e := cnt_inj (N := 256) (f := fun k => some (bn k)) n (fun q => decide (cb_where q (sc, pl, ln, bn, n, dt, hi, sw, mi, hc, co) = 2)) (fun s q hs e => by have := (a5 s hs).1; rw [← Option.some.inj e]; exact this) (fun s t q hs ht e1 e2 => a6 s t hs ht ((Option.some.inj e1).trans (Option.some.inj e2).symm)) (fun q hq => by
    refine ⟨fun e => ?_, fun ⟨k, hk, e⟩ => decide_eq_true ((where_2 h0).mpr ⟨k, hk, Option.some.inj e⟩)⟩
    obtain ⟨k, hk, hb⟩ := (where_2 h0).mp (of_decide_eq_true e)
    exact ⟨k, hk, congrArg some hb⟩)
  rw [e]
  exact cnt_all (fun j _ => rfl)
theorem dirty_le {u : CBu} (h : Ok 256 u) : cb_dirty u ≤ cb_lines u := by
  have e1 := cnt_w1 h
  have e2 := cnt_w2 h
  have e3 : cnt (cb_dt u) 256 ≤ cnt (fun q => decide (cb_where q u = 1)) 256 + cnt (fun q => decide (cb_where q u = 2)) 256 := cnt_or (fun j hj hd => by
    rcases where_dt h hj hd with c | c
    · exact Or.inl (decide_eq_true c)
    · exact Or.inr (decide_eq_true c))
  rw [e1, e2] at e3
  obtain ⟨sc, pl, ln, bn, n, dt, hi, sw, mi, hc, co⟩ := u
  show cnt dt 256 ≤ n + cnt (fun s => (ln s).isSome) sc
  have e3 : cnt dt 256 ≤ cnt (fun s => (ln s).isSome) sc + n := e3
  omega
/-! what is counted -/
abbrev cb_hi (u : CBu) : Int32 := u.2.2.2.2.2.2.1
abbrev cb_sw (u : CBu) : Int32 := u.2.2.2.2.2.2.2.1
abbrev cb_mi (u : CBu) : Int32 := u.2.2.2.2.2.2.2.2.1
abbrev la_cnt (la : LAu) : Nat := la.2.2.1
def CF (u : CBu) : Prop := cb_co u = cb_hi u + nI 3 * cb_sw u + nI 20 * cb_mi u + nI 10 * cb_hc u
/-- from u to v: d more cost, a more accesses; what is counted is what is done -/
def Gr (u v : CBu) (d a : Nat) : Prop := cb_co v = cb_co u + nI d ∧ cb_hi v + cb_sw v + cb_mi v = cb_hi u + cb_sw u + cb_mi u + nI a ∧ (CF u → CF v)
theorem arc32 (a b c : Int32) : a + b + c = a + c + b := by rw [Int32.add_assoc, Int32.add_comm b c, ← Int32.add_assoc]
theorem add_nI0 (y : Int32) : y + nI 0 = y := Int32.add_zero y
theorem Gr.same {u v : CBu} (h1 : cb_co v = cb_co u) (h2 : cb_hi v = cb_hi u) (h3 : cb_sw v = cb_sw u) (h4 : cb_mi v = cb_mi u) (h5 : cb_hc v = cb_hc u) : Gr u v 0 0 := by
  refine ⟨by rw [h1, add_nI0], by rw [h2, h3, h4, add_nI0], fun h => ?_⟩
  unfold CF at h ⊢
  rw [h1, h2, h3, h4, h5]
  exact h
theorem Gr.rf (u : CBu) : Gr u u 0 0 := Gr.same rfl rfl rfl rfl rfl
theorem Gr.tr {u v w : CBu} {d a d2 a2 : Nat} (h : Gr u v d a) (g : Gr v w d2 a2) : Gr u w (d + d2) (a + a2) := by
  obtain ⟨h1, h2, h3⟩ := h
  obtain ⟨g1, g2, g3⟩ := g
  refine ⟨?_, ?_, fun e => g3 (h3 e)⟩
  · rw [g1, h1, Int32.add_assoc, nI_add]
  · rw [g2, h2, Int32.add_assoc, nI_add]
theorem gr_bh (q : Nat) (u : CBu) : ∃ d, d ≤ 10 ∧ Gr u (cb_bh q u) d 0 := by
  obtain ⟨sc, pl, ln, bn, n, dt, hi, sw, mi, hc, co⟩ := u
  cases h : dt q with
  | false =>
    refine ⟨0, by omega, Gr.same ?_ rfl rfl rfl ?_⟩
    · show co + cI (dt q) 10 = co
      rw [h, cI_f, Int32.add_zero]
    · show hc + cI (dt q) 1 = hc
      rw [h, cI_f, Int32.add_zero]
  | true =>
    refine ⟨10, by omega, ?_, ?_, fun e => ?_⟩
    · show co + cI (dt q) 10 = co + nI 10
      rw [h, cI_t]
      rfl
    · show hi + sw + mi = hi + sw + mi + nI 0
      rw [add_nI0]
    · have e : co = hi + nI 3 * sw + nI 20 * mi + nI 10 * hc := e
      show co + cI (dt q) 10 = hi + nI 3 * sw + nI 20 * mi + nI 10 * (hc + cI (dt q) 1)
      rw [h, cI_t, cI_t, Int32.mul_add, Int32.mul_one, e, ← Int32.add_assoc]
      rfl
theorem gr_throw (s : Nat) (u : CBu) : ∃ d, d ≤ 10 ∧ Gr u (cb_throw s u) d 0 := by
  obtain ⟨sc, pl, ln, bn, n, dt, hi, sw, mi, hc, co⟩ := u
  unfold cb_throw
  dsimp only
  split
  · exact ⟨0, by omega, Gr.rf _⟩
  · rename_i q hs
    have h0 : Gr (sc, pl, ln, bn, n, dt, hi, sw, mi, hc, co) (sc, pl, ru ln s none, bn, n, dt, hi, sw, mi, hc, co) 0 0 := Gr.same rfl rfl rfl rfl rfl
    split
    · obtain ⟨d, hd, h1⟩ := gr_bh q (sc, pl, ru ln s none, bn, n, dt, hi, sw, mi, hc, co)
      have h2 := h0.tr h1
      rw [Nat.zero_add] at h2
      exact ⟨d, hd, h2⟩
    · split
      · obtain ⟨d, hd, h1⟩ := gr_bh (bn 0) (sc, pl, ru ln s none, bn, n, dt, hi, sw, mi, hc, co)
        have h2 := h0.tr h1
        rw [Nat.zero_add] at h2
        have h3 : Gr (cb_bh (bn 0) (sc, pl, ru ln s none, bn, n, dt, hi, sw, mi, hc, co)) (cb_sit q (cb_leave 0 (cb_bh (bn 0) (sc, pl, ru ln s none, bn, n, dt, hi, sw, mi, hc, co)))) 0 0 := Gr.same rfl rfl rfl rfl rfl
        exact ⟨d, hd, h2.tr h3⟩
      · have h3 : Gr (sc, pl, ru ln s none, bn, n, dt, hi, sw, mi, hc, co) (cb_sit q (sc, pl, ru ln s none, bn, n, dt, hi, sw, mi, hc, co)) 0 0 := Gr.same rfl rfl rfl rfl rfl
        exact ⟨0, by omega, h0.tr h3⟩
theorem grc_put (s q : Nat) (w : Bool) (u : CBu) : Gr u (cb_put s q w u) 0 0 := by
  obtain ⟨sc, pl, ln, bn, n, dt, hi, sw, mi, hc, co⟩ := u
  exact Gr.same rfl rfl rfl rfl rfl
theorem gr_leave (k : Nat) (u : CBu) : Gr u (cb_leave k u) 0 0 := by
  obtain ⟨sc, pl, ln, bn, n, dt, hi, sw, mi, hc, co⟩ := u
  exact Gr.same rfl rfl rfl rfl rfl
theorem gr_hit (q : Nat) (w : Bool) (u : CBu) : Gr u (cb_hit q w u) 1 1 := by
  obtain ⟨sc, pl, ln, bn, n, dt, hi, sw, mi, hc, co⟩ := u
  refine ⟨rfl, ?_, fun e => ?_⟩
  · show hi + 1 + sw + mi = hi + sw + mi + 1
    rw [arc32 hi 1 sw, arc32 (hi + sw) 1 mi]
  · have e : co = hi + nI 3 * sw + nI 20 * mi + nI 10 * hc := e
    show co + 1 = hi + 1 + nI 3 * sw + nI 20 * mi + nI 10 * hc
    rw [arc32 hi 1, arc32 (hi + nI 3 * sw) 1, arc32 (hi + nI 3 * sw + nI 20 * mi) 1, e]
theorem gr_missed (u : CBu) : Gr u (cb_missed u) 20 1 := by
  obtain ⟨sc, pl, ln, bn, n, dt, hi, sw, mi, hc, co⟩ := u
  refine ⟨rfl, ?_, fun e => ?_⟩
  · show hi + sw + (mi + 1) = hi + sw + mi + 1
    rw [Int32.add_assoc (hi + sw) mi 1]
  · have e : co = hi + nI 3 * sw + nI 20 * mi + nI 10 * hc := e
    show co + 20 = hi + nI 3 * sw + nI 20 * (mi + 1) + nI 10 * hc
    rw [Int32.mul_add, Int32.mul_one, ← Int32.add_assoc (hi + nI 3 * sw), arc32 (hi + nI 3 * sw + nI 20 * mi) (nI 20), e]
    rfl
theorem gr_swapped (u : CBu) : Gr u (cb_swapped u) 3 1 := by
  obtain ⟨sc, pl, ln, bn, n, dt, hi, sw, mi, hc, co⟩ := u
  refine ⟨rfl, ?_, fun e => ?_⟩
  · show hi + (sw + 1) + mi = hi + sw + mi + 1
    rw [← Int32.add_assoc hi sw 1, arc32 (hi + sw) 1 mi]
  · have e : co = hi + nI 3 * sw + nI 20 * mi + nI 10 * hc := e
    show co + 3 = hi + nI 3 * (sw + 1) + nI 20 * mi + nI 10 * hc
    rw [Int32.mul_add, Int32.mul_one, ← Int32.add_assoc hi, arc32 (hi + nI 3 * sw) (nI 3), arc32 (hi + nI 3 * sw + nI 20 * mi) (nI 3), e]
    rfl
theorem gr_acc (q : Nat) (w : Bool) (u : CBu) : ∃ d, 1 ≤ d ∧ d ≤ 30 ∧ Gr u (cb_acc q w u) d 1 := by
  unfold cb_acc
  split
  · exact ⟨1, by omega, by omega, gr_hit q w u⟩
  · split
    · obtain ⟨d, hd, h⟩ := gr_throw (q % cb_sc u) (cb_missed u)
      exact ⟨20 + d, by omega, by omega, ((gr_missed u).tr h).tr (grc_put _ q w _)⟩
    · rename_i k hk
      obtain ⟨d, hd, h⟩ := gr_throw (q % cb_sc u) (cb_leave k (cb_swapped u))
      exact ⟨3 + d, by omega, by omega, (((gr_swapped u).tr (gr_leave k _)).tr h).tr (grc_put _ q w _)⟩
theorem gr_walk (a : Nat) (z : Int) (u : CBu) (la : LAu) : ∀ k, ∃ d, k ≤ d ∧ d ≤ 30 * k ∧ Gr u (ob_walk a z k u la).1 d k
  | 0 => ⟨0, by omega, by omega, Gr.rf u⟩
  | k + 1 => by
    obtain ⟨d, h1, h2, h3⟩ := gr_walk a z u la k
    obtain ⟨d2, g1, g2, g3⟩ := gr_acc (adr a z k / 4) false (ob_walk a z k u la).1
    exact ⟨d + d2, by omega, by omega, h3.tr g3⟩
theorem gr_try (la : LAu) (u : CBu) : ∀ k, ∃ d, k ≤ d ∧ d ≤ 30 * k ∧ Gr u (la_try la k u) d k
  | 0 => ⟨0, by omega, by omega, Gr.rf u⟩
  | k + 1 => by
    obtain ⟨d, h1, h2, h3⟩ := gr_try la u k
    obtain ⟨d2, g1, g2, g3⟩ := gr_acc (la.1 (la_slot k la)) (la.2.1 (la_slot k la)) (la_try la k u)
    exact ⟨d + d2, by omega, by omega, h3.tr g3⟩
/-- a trial's cost, whatever was counted ahead of it -/
theorem co_trial (la : LAu) (s' p' : Nat) (u : CBu) : ∃ d, la_cnt la ≤ d ∧ d ≤ 30 * la_cnt la ∧ cb_co (la_trial la s' p' u) - cb_co u = nI d := by
  obtain ⟨d, h1, h2, h3, -⟩ := gr_try la (cb_empty s' p' u) (la_cnt la)
  refine ⟨d, h1, h2, ?_⟩
  have h3 : cb_co (la_trial la s' p' u) = cb_co (cb_empty s' p' u) + nI d := h3
  have h4 : cb_co (cb_empty s' p' u) = cb_co u := by
    obtain ⟨sc, pl, ln, bn, n, dt, hi, sw, mi, hc, co⟩ := u
    rfl
  rw [h3, h4, Int32.add_comm (cb_co u), Int32.add_sub_cancel]
theorem best_le (la : LAu) (s' : Nat) (u : CBu) : ∀ k, (la_best la s' k u).1 ≤ k
  | 0 => Nat.le_refl _
  | k + 1 => by
    have ih := best_le la s' u k
    unfold la_best
    generalize la_best la s' k u = r at ih
    obtain ⟨b, c, t⟩ := r
    have ih : b ≤ k := ih
    dsimp only
    split
    · exact Nat.le_refl _
    · exact Nat.le_succ_of_le ih

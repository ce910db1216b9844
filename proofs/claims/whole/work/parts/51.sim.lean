/-! the program's cache and bench beside the reference's, world w -/
def RW (w : Nat) (c0 : Int32) : CBu → MDu → Prop := fun (sc, pl, ln, bn, n, dt, hi, sw, mi, hc, co) (mw, mh, ms, mp, ml, mb, mm, md, mc, mhi, msw, mmi, mhc, ma, mq, mt) => ms w = sc ∧ mp w = pl ∧ (∀ s, s < 16 → ml (16 * w + s) = ln s) ∧ mm w = n ∧ (∀ k, k < n → mb (8 * w + k) = bn (n - 1 - k)) ∧ (∀ j, j < 256 → md (256 * w + j) = dt j) ∧ co = c0 + mc w
def RH (w : Nat) (wr hm : Nat → Int32) : CBu → MDu → Prop := fun (sc, pl, ln, bn, n, dt, hi, sw, mi, hc, co) (mw, mh, ms, mp, ml, mb, mm, md, mc, mhi, msw, mmi, mhc, ma, mq, mt) => w = 0 → mw = wr ∧ mhc = hc ∧ ∀ a, a < 1024 → mh a = if dt (a / 4) = true then hm a else wr a
def RX (w : Nat) (c0 : Int32) (wr hm : Nat → Int32) (u : CBu) (x : MDu) : Prop := RW w c0 u x ∧ RH w wr hm u x
/-- what the program's state keeps; line x may be dirty without a place, and has none -/
def Ok (x : Nat) : CBu → Prop := fun (sc, pl, ln, bn, n, dt, hi, sw, mi, hc, co) => (sc = 1 ∨ sc = 2 ∨ sc = 4 ∨ sc = 8 ∨ sc = 16) ∧ pl ≤ 8 ∧ n ≤ pl ∧ (∀ s q, ln s = some q → s < sc ∧ q % sc = s ∧ q < 256 ∧ q ≠ x) ∧ (∀ k, k < n → bn k < 256 ∧ bn k ≠ x ∧ ln (bn k % sc) ≠ some (bn k)) ∧ (∀ i j, i < n → j < n → bn i = bn j → i = j) ∧ ∀ q, q < 256 → q ≠ x → dt q = true → ln (q % sc) = some q ∨ ∃ k, k < n ∧ bn k = q
theorem okS_lt {sc : Nat} (h : sc = 1 ∨ sc = 2 ∨ sc = 4 ∨ sc = 8 ∨ sc = 16) : 0 < sc ∧ sc ≤ 16 := by omega
/-! the program's state alone -/
theorem ok_in {q : Nat} {sc : Nat} {pl : Nat} {ln : Nat → Option Nat} {bn : Nat → Nat} {n : Nat} {dt : Nat → Bool} {hi : Int32} {sw : Int32} {mi : Int32} {hc : Int32} {co : Int32} (h : Ok 256 (sc, pl, ln, bn, n, dt, hi, sw, mi, hc, co)) (h1 : ln (q % sc) ≠ some q) (h2 : ∀ k, k < n → bn k ≠ q) : Ok q (sc, pl, ln, bn, n, dt, hi, sw, mi, hc, co) := by
  obtain ⟨a1, a2, a3, a4, a5, a6, a7⟩ := h
  refine ⟨a1, a2, a3, fun s r hs => ?_, fun k hk => ⟨(a5 k hk).1, h2 k hk, (a5 k hk).2.2⟩, a6, fun r hr _ hd => a7 r hr (by omega) hd⟩
  obtain ⟨b1, b2, b3, -⟩ := a4 s r hs
  refine ⟨b1, b2, b3, fun hq => ?_⟩
  subst hq
  rw [← b2] at hs
  exact h1 hs
theorem shl_lo {f : Nat → Nat} {a b j : Nat} (h : j < a) : shl f a b j = f j := by
  unfold shl
  rw [if_neg (by omega)]
theorem shl_md {f : Nat → Nat} {a b j : Nat} (h : a ≤ j) (h2 : j < b) : shl f a b j = f (j + 1) := by
  unfold shl
  rw [if_pos ⟨h, h2⟩]
/-- the k-th leaves: what the rest is -/
theorem leave_at {bn : Nat → Nat} {n k j : Nat} (hj : j < n - 1) : ∃ i, i < n ∧ i ≠ k ∧ shl bn k (n - 1) j = bn i ∧ ((j < k ∧ i = j) ∨ (k ≤ j ∧ i = j + 1)) := by
  by_cases h : j < k
  · exact ⟨j, by omega, by omega, shl_lo h, Or.inl ⟨h, rfl⟩⟩
  · exact ⟨j + 1, by omega, by omega, shl_md (by omega) hj, Or.inr ⟨by omega, rfl⟩⟩
theorem leave_has {bn : Nat → Nat} {n k i : Nat} (hi : i < n) (hkn : k < n) (hk : i ≠ k) : ∃ j, j < n - 1 ∧ shl bn k (n - 1) j = bn i := by
  by_cases h : i < k
  · exact ⟨i, by omega, shl_lo h⟩
  · refine ⟨i - 1, by omega, ?_⟩
    rw [shl_md (by omega) (by omega), show i - 1 + 1 = i by omega]
theorem ok_leave {q k : Nat} {sc : Nat} {pl : Nat} {ln : Nat → Option Nat} {bn : Nat → Nat} {n : Nat} {dt : Nat → Bool} {hi : Int32} {sw : Int32} {mi : Int32} {hc : Int32} {co : Int32} (h : Ok 256 (sc, pl, ln, bn, n, dt, hi, sw, mi, hc, co)) (hk : k < n) (hq : bn k = q) : Ok q (cb_leave k (sc, pl, ln, bn, n, dt, hi, sw, mi, hc, co)) := by
  obtain ⟨a1, a2, a3, a4, a5, a6, a7⟩ := h
  refine ⟨a1, a2, by show n - 1 ≤ pl; omega, fun s r hs => ?_, fun j hj => ?_, fun i j hi hj e => ?_, fun r hr hrq hd => ?_⟩
  · obtain ⟨b1, b2, b3, -⟩ := a4 s r hs
    refine ⟨b1, b2, b3, fun e => ?_⟩
    have hs : ln s = some r := hs
    rw [← b2, e, ← hq] at hs
    exact (a5 k hk).2.2 hs
  · have hj : j < n - 1 := hj
    obtain ⟨i, c1, c2, c3, -⟩ := leave_at (bn := bn) (k := k) hj
    show shl bn k (n - 1) j < 256 ∧ shl bn k (n - 1) j ≠ q ∧ ln (shl bn k (n - 1) j % sc) ≠ some (shl bn k (n - 1) j)
    rw [c3]
    exact ⟨(a5 i c1).1, fun e => c2 (a6 i k c1 hk (e.trans hq.symm)), (a5 i c1).2.2⟩
  · have hi : i < n - 1 := hi
    have hj : j < n - 1 := hj
    have e : shl bn k (n - 1) i = shl bn k (n - 1) j := e
    obtain ⟨i', c1, c2, c3, c4⟩ := leave_at (bn := bn) (k := k) hi
    obtain ⟨j', d1, d2, d3, d4⟩ := leave_at (bn := bn) (k := k) hj
    rw [c3, d3] at e
    have := a6 i' j' c1 d1 e
    omega
  · rcases a7 r hr (by omega) hd with c | ⟨i, c1, c2⟩
    · exact Or.inl c
    · have hik : i ≠ k := fun e => hrq (by rw [← c2, e, hq])
      obtain ⟨j, d1, d2⟩ := leave_has (bn := bn) c1 hk hik
      exact Or.inr ⟨j, d1, d2.trans c2⟩
/-- the oldest leaves and goes home -/
theorem ok_old {x : Nat} {sc : Nat} {pl : Nat} {ln : Nat → Option Nat} {bn : Nat → Nat} {n : Nat} {dt : Nat → Bool} {hi : Int32} {sw : Int32} {mi : Int32} {hc : Int32} {co : Int32} (h : Ok x (sc, pl, ln, bn, n, dt, hi, sw, mi, hc, co)) (hn : 0 < n) : Ok x (cb_leave 0 (cb_bh (bn 0) (sc, pl, ln, bn, n, dt, hi, sw, mi, hc, co))) := by
  obtain ⟨a1, a2, a3, a4, a5, a6, a7⟩ := h
  refine ⟨a1, a2, by show n - 1 ≤ pl; omega, a4, fun j hj => ?_, fun i j hi hj e => ?_, fun r hr hrq hd => ?_⟩
  · have hj : j < n - 1 := hj
    obtain ⟨i, c1, c2, c3, -⟩ := leave_at (bn := bn) (k := 0) hj
    show shl bn 0 (n - 1) j < 256 ∧ shl bn 0 (n - 1) j ≠ x ∧ ln (shl bn 0 (n - 1) j % sc) ≠ some (shl bn 0 (n - 1) j)
    rw [c3]
    exact a5 i c1
  · have hi : i < n - 1 := hi
    have hj : j < n - 1 := hj
    have e : shl bn 0 (n - 1) i = shl bn 0 (n - 1) j := e
    obtain ⟨i', c1, c2, c3, c4⟩ := leave_at (bn := bn) (k := 0) hi
    obtain ⟨j', d1, d2, d3, d4⟩ := leave_at (bn := bn) (k := 0) hj
    rw [c3, d3] at e
    have := a6 i' j' c1 d1 e
    omega
  · have hd : ru dt (bn 0) false r = true := hd
    have hr0 : r ≠ bn 0 := fun e => by rw [e, ru_s] at hd; cases hd
    rw [ru_n _ _ hr0] at hd
    rcases a7 r hr hrq hd with c | ⟨i, c1, c2⟩
    · exact Or.inl c
    · have hik : i ≠ 0 := fun e => hr0 (by rw [← c2, e])
      obtain ⟨j, d1, d2⟩ := leave_has (bn := bn) (k := 0) c1 hn hik
      exact Or.inr ⟨j, d1, d2.trans c2⟩
theorem ru_none {ln : Nat → Option Nat} {s t r : Nat} (h : ru ln s none t = some r) : t ≠ s ∧ ln t = some r := by
  unfold ru at h
  split at h
  · cases h
  · rename_i hn
    exact ⟨hn, h⟩
theorem ok_sitn {x s q : Nat} {sc : Nat} {pl : Nat} {ln : Nat → Option Nat} {bn : Nat → Nat} {n : Nat} {dt : Nat → Bool} {hi : Int32} {sw : Int32} {mi : Int32} {hc : Int32} {co : Int32} (h : Ok x (sc, pl, ln, bn, n, dt, hi, sw, mi, hc, co)) (hs : ln s = some q) (hn : n < pl) : Ok x (cb_sit q (sc, pl, ru ln s none, bn, n, dt, hi, sw, mi, hc, co)) := by
  obtain ⟨a1, a2, a3, a4, a5, a6, a7⟩ := h
  obtain ⟨b1, b2, b3, b4⟩ := a4 s q hs
  have hne : ∀ k, k < n → bn k ≠ q := fun k hk e => (a5 k hk).2.2 (by rw [e, b2]; exact hs)
  refine ⟨a1, a2, by show n + 1 ≤ pl; omega, fun t r ht => a4 t r (ru_none ht).2, fun k hk => ?_, fun i j hi hj e => ?_, fun r hr hrq hd => ?_⟩
  · have hk : k < n + 1 := hk
    show ru bn n q k < 256 ∧ ru bn n q k ≠ x ∧ ru ln s none (ru bn n q k % sc) ≠ some (ru bn n q k)
    by_cases hkn : k = n
    · subst hkn
      rw [ru_s]
      exact ⟨b3, b4, fun e => (ru_none e).1 b2⟩
    · rw [ru_n _ _ hkn]
      have := a5 k (by omega)
      exact ⟨this.1, this.2.1, fun e => this.2.2 (ru_none e).2⟩
  · have hi : i < n + 1 := hi
    have hj : j < n + 1 := hj
    have e : ru bn n q i = ru bn n q j := e
    by_cases hin : i = n
    · by_cases hjn : j = n
      · omega
      · rw [hin, ru_s, ru_n _ _ hjn] at e
        exact absurd e.symm (hne j (by omega))
    · by_cases hjn : j = n
      · rw [hjn, ru_s, ru_n _ _ hin] at e
        exact absurd e (hne i (by omega))
      · rw [ru_n _ _ hin, ru_n _ _ hjn] at e
        exact a6 i j (by omega) (by omega) e
  · show ru ln s none (r % sc) = some r ∨ ∃ k, k < n + 1 ∧ ru bn n q k = r
    by_cases hq : r = q
    · exact Or.inr ⟨n, by omega, by rw [ru_s, hq]⟩
    · rcases a7 r hr hrq hd with c | ⟨i, c1, c2⟩
      · refine Or.inl ?_
        rw [ru_n]
        · exact c
        · intro e
          rw [e, hs] at c
          exact hq (Option.some.inj c).symm
      · exact Or.inr ⟨i, by omega, by rw [ru_n _ _ (by omega)]; exact c2⟩
theorem ok_throw {x s : Nat} {u : CBu} (h : Ok x u) : Ok x (cb_throw s u) := by
  obtain ⟨sc, pl, ln, bn, n, dt, hi, sw, mi, hc, co⟩ := u
  unfold cb_throw
  dsimp only
  split
  · exact h
  · rename_i q hs
    have h0 := h
    obtain ⟨a1, a2, a3, a4, a5, a6, a7⟩ := h0
    split
    · rename_i hp
      refine ⟨a1, a2, a3, fun t r ht => a4 t r (ru_none ht).2, fun k hk => ?_, a6, fun r hr hrq hd => ?_⟩
      · have hk : k < n := hk
        omega
      · have hd : ru dt q false r = true := hd
        have hrq2 : r ≠ q := fun e => by rw [e, ru_s] at hd; cases hd
        rw [ru_n _ _ hrq2] at hd
        rcases a7 r hr hrq hd with c | ⟨i, c1, c2⟩
        · refine Or.inl ?_
          show ru ln s none (r % sc) = some r
          rw [ru_n]
          · exact c
          · intro e
            rw [e, hs] at c
            exact hrq2 (Option.some.inj c).symm
        · omega
    · rename_i hp
      split
      · rename_i hn
        have h1 := ok_old h (show 0 < n by omega)
        exact ok_sitn (s := s) (q := q) h1 hs (show n - 1 < pl by omega)
      · rename_i hn
        exact ok_sitn h hs (show n < pl by omega)
theorem throw_ln (s : Nat) (u : CBu) : cb_ln (cb_throw s u) s = none ∧ cb_sc (cb_throw s u) = cb_sc u := by
  obtain ⟨sc, pl, ln, bn, n, dt, hi, sw, mi, hc, co⟩ := u
  unfold cb_throw
  dsimp only
  split
  · rename_i h
    exact ⟨h, rfl⟩
  · split
    · exact ⟨ru_s _ _ _, rfl⟩
    · split
      · exact ⟨ru_s _ _ _, rfl⟩
      · exact ⟨ru_s _ _ _, rfl⟩
theorem ok_put {q : Nat} {w : Bool} {u : CBu} (h : Ok q u) (hq : q < 256) (hl : cb_ln u (q % cb_sc u) = none) : Ok 256 (cb_put (q % cb_sc u) q w u) := by
  obtain ⟨sc, pl, ln, bn, n, dt, hi, sw, mi, hc, co⟩ := u
  have hl : ln (q % sc) = none := hl
  obtain ⟨a1, a2, a3, a4, a5, a6, a7⟩ := h
  refine ⟨a1, a2, a3, fun t r ht => ?_, fun k hk => ?_, a6, fun r hr _ hd => ?_⟩
  · have ht : ru ln (q % sc) (some q) t = some r := ht
    unfold ru at ht
    split at ht
    · rename_i ht2
      cases ht
      exact ⟨by rw [ht2]; exact Nat.mod_lt _ (okS_lt a1).1, ht2.symm, hq, by omega⟩
    · obtain ⟨b1, b2, b3, -⟩ := a4 t r ht
      exact ⟨b1, b2, b3, by omega⟩
  · obtain ⟨b1, b2, b3⟩ := a5 k hk
    refine ⟨b1, by omega, fun e => ?_⟩
    have e : ru ln (q % sc) (some q) (bn k % sc) = some (bn k) := e
    unfold ru at e
    split at e
    · cases e
      exact b2 rfl
    · exact b3 e
  · show ru ln (q % sc) (some q) (r % sc) = some r ∨ ∃ k, k < n ∧ bn k = r
    by_cases hrq : r = q
    · exact Or.inl (by rw [hrq, ru_s])
    · have hd : (if w then ru dt q true else dt) r = true := hd
      have hd : dt r = true := by
        cases w
        · exact hd
        · have hd : ru dt q true r = true := hd
          rw [ru_n _ _ hrq] at hd
          exact hd
      rcases a7 r hr hrq hd with c | c
      · refine Or.inl ?_
        rw [ru_n]
        · exact c
        · intro e
          rw [e, hl] at c
          cases c
      · exact Or.inr c
theorem ok_acc {q : Nat} {w : Bool} {u : CBu} (h : Ok 256 u) (hq : q < 256) : Ok 256 (cb_acc q w u) := by
  obtain ⟨sc, pl, ln, bn, n, dt, hi, sw, mi, hc, co⟩ := u
  unfold cb_acc
  have h0 := h
  obtain ⟨a1, a2, a3, a4, a5, a6, a7⟩ := h0
  split
  · rename_i hln
    have hln : ln (q % sc) = some q := hln
    refine ⟨a1, a2, a3, a4, a5, a6, fun r hr hr2 hd => ?_⟩
    show ln (r % sc) = some r ∨ ∃ k, k < n ∧ bn k = r
    by_cases hrq : r = q
    · exact Or.inl (by rw [hrq]; exact hln)
    · have hd : (if w then ru dt q true else dt) r = true := hd
      cases w
      · exact a7 r hr hr2 hd
      · have hd : ru dt q true r = true := hd
        rw [ru_n _ _ hrq] at hd
        exact a7 r hr hr2 hd
  · rename_i hln
    have hln : ln (q % sc) ≠ some q := hln
    split
    · rename_i hs
      have hs : fnd (fun k => decide (bn k = q)) n = none := hs
      have h1 : Ok q (cb_missed (sc, pl, ln, bn, n, dt, hi, sw, mi, hc, co)) := ok_in (q := q) h hln (fun k hk e => by have := fnd_of_none hs k hk; simp [e] at this)
      have h2 := ok_throw (s := q % sc) h1
      obtain ⟨e1, e2⟩ := throw_ln (q % sc) (cb_missed (sc, pl, ln, bn, n, dt, hi, sw, mi, hc, co))
      have h3 := ok_put (w := w) h2 hq (by rw [e2]; exact e1)
      rw [e2] at h3
      exact h3
    · rename_i k hs
      have hs : fnd (fun k => decide (bn k = q)) n = some k := hs
      obtain ⟨hk, hb, -⟩ := fnd_of_some hs
      have h1 : Ok q (cb_leave k (cb_swapped (sc, pl, ln, bn, n, dt, hi, sw, mi, hc, co))) := ok_leave (k := k) h hk (of_decide_eq_true hb)
      have h2 := ok_throw (s := q % sc) h1
      obtain ⟨e1, e2⟩ := throw_ln (q % sc) (cb_leave k (cb_swapped (sc, pl, ln, bn, n, dt, hi, sw, mi, hc, co)))
      have h3 := ok_put (w := w) h2 hq (by rw [e2]; exact e1)
      rw [e2] at h3
      exact h3
theorem ok_of {u : CBu} (h : Ok 256 u) : cb_bd u := by
  obtain ⟨sc, pl, ln, bn, n, dt, hi, sw, mi, hc, co⟩ := u
  obtain ⟨a1, a2, a3, a4, a5, a6, a7⟩ := h
  exact ⟨a1, a2, by omega, fun s q hs => (a4 s q hs).2.2.1, fun k hk => (a5 k hk).1⟩
theorem ok_to {u : CBu} {x : Nat} (hx : 256 ≤ x) (h : Ok 256 u) : Ok x u := by
  obtain ⟨sc, pl, ln, bn, n, dt, hi, sw, mi, hc, co⟩ := u
  obtain ⟨a1, a2, a3, a4, a5, a6, a7⟩ := h
  refine ⟨a1, a2, a3, fun s q hs => ?_, fun k hk => ?_, a6, fun q hq _ => a7 q hq (by omega)⟩
  · have := a4 s q hs
    exact ⟨this.1, this.2.1, this.2.2.1, by omega⟩
  · have := a5 k hk
    exact ⟨this.1, by omega, this.2.2⟩
theorem ok_empty {s' p' : Nat} (u : CBu) (hs : s' = 1 ∨ s' = 2 ∨ s' = 4 ∨ s' = 8 ∨ s' = 16) (hp : p' ≤ 8) : Ok 256 (cb_empty s' p' u) := by
  obtain ⟨sc, pl, ln, bn, n, dt, hi, sw, mi, hc, co⟩ := u
  exact ⟨hs, hp, Nat.zero_le _, fun s q h => absurd h (by intro e; cases e), fun k hk => absurd hk (Nat.not_lt_zero _), fun i j hi => absurd hi (Nat.not_lt_zero _), fun q _ _ h => Bool.noConfusion h⟩

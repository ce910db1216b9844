/-! what the program keeps, its counts, all brought home -/
/-- what the program's state keeps; line x may be dirty without a place, and has none -/
def Ok (x : Nat) : CBu → Prop := fun (sc, pl, ln, bn, n, dt, hi, sw, mi, hc, co) => (sc = 1 ∨ sc = 2 ∨ sc = 4 ∨ sc = 8 ∨ sc = 16) ∧ pl ≤ 8 ∧ n ≤ pl ∧ (∀ s q, ln s = some q → s < sc ∧ q % sc = s ∧ q < 256 ∧ q ≠ x) ∧ (∀ k, k < n → bn k < 256 ∧ bn k ≠ x ∧ ln (bn k % sc) ≠ some (bn k)) ∧ (∀ i j, i < n → j < n → bn i = bn j → i = j) ∧ ∀ q, q < 256 → q ≠ x → dt q = true → ln (q % sc) = some q ∨ ∃ k, k < n ∧ bn k = q
theorem okS_lt {sc : Nat} (h : sc = 1 ∨ sc = 2 ∨ sc = 4 ∨ sc = 8 ∨ sc = 16) : 0 < sc ∧ sc ≤ 16 := by omega
/-! the program's state alone -/
theorem ok_in {q : Nat} {sc : Nat} {pl : Nat} {ln : Nat → Option Nat} {bn : Nat → Nat} {n : Nat} {dt : Nat → Bool} {hi : Int32} {sw : Int32} {mi : Int32} {hc : Int32} {co : Int32} (h : Ok 256 (sc, pl, ln, bn, n, dt, hi, sw, mi, hc, co)) (h1 : ln (q % sc) ≠ some q) (h2 : ∀ k, k < n → bn k ≠ q) : Ok q (sc, pl, ln, bn, n, dt, hi, sw, mi, hc, co) := by
  obtain ⟨a1, a2, a3, a4, a5, a6, a7⟩ := h
  refine ⟨a1, a2, a3, fun s r hs => ?_, fun k hk => ⟨(a5 k hk).1, h2 k hk, (a5 k hk).2.2⟩, a6, fun r hr _ hd => a7 r hr (by omega) hd⟩
  obtain ⟨b1, b2, b3, -⟩ := a4 s r hs
  refine ⟨b1, b2, b3, fun hq => ?_⟩
  subst hq
  rw [← b2] at hs
  exact h1 hs
theorem shl_lo {f : Nat → Nat} {a b j : Nat} (h : j < a) : shl f a b j = f j := by
  unfold shl
  rw [if_neg (by omega)]
theorem shl_md {f : Nat → Nat} {a b j : Nat} (h : a ≤ j) (h2 : j < b) : shl f a b j = f (j + 1) := by
  unfold shl
  rw [if_pos ⟨h, h2⟩]
/-- the k-th leaves: what the rest is -/
theorem leave_at {bn : Nat → Nat} {n k j : Nat} (hj : j < n - 1) : ∃ i, i < n ∧ i ≠ k ∧ shl bn k (n - 1) j = bn i ∧ ((j < k ∧ i = j) ∨ (k ≤ j ∧ i = j + 1)) := by
  by_cases h : j < k
  · exact ⟨j, by omega, by omega, shl_lo h, Or.inl ⟨h, rfl⟩⟩
  · exact ⟨j + 1, by omega, by omega, shl_md (by omega) hj, Or.inr ⟨by omega, rfl⟩⟩
theorem leave_has {bn : Nat → Nat} {n k i : Nat} (hi : i < n) (hkn : k < n) (hk : i ≠ k) : ∃ j, j < n - 1 ∧ shl bn k (n - 1) j = bn i := by
  by_cases h : i < k
  · exact ⟨i, by omega, shl_lo h⟩
  · refine ⟨i - 1, by omega, ?_⟩
    rw [shl_md (by omega) (by omega), show i - 1 + 1 = i by omega]
theorem ok_leave {q k : Nat} {sc : Nat} {pl : Nat} {ln : Nat → Option Nat} {bn : Nat → Nat} {n : Nat} {dt : Nat → Bool} {hi : Int32} {sw : Int32} {mi : Int32} {hc : Int32} {co : Int32} (h : Ok 256 (sc, pl, ln, bn, n, dt, hi, sw, mi, hc, co)) (hk : k < n) (hq : bn k = q) : Ok q (cb_leave k (sc, pl, ln, bn, n, dt, hi, sw, mi, hc, co)) := by
  obtain ⟨a1, a2, a3, a4, a5, a6, a7⟩ := h
  refine ⟨a1, a2, by show n - 1 ≤ pl; omega, fun s r hs => ?_, fun j hj => ?_, fun i j hi hj e => ?_, fun r hr hrq hd => ?_⟩
  · obtain ⟨b1, b2, b3, -⟩ := a4 s r hs
    refine ⟨b1, b2, b3, fun e => ?_⟩
    have hs : ln s = some r := hs
    rw [← b2, e, ← hq] at hs
    exact (a5 k hk).2.2 hs
  · have hj : j < n - 1 := hj
    obtain ⟨i, c1, c2, c3, -⟩ := leave_at (bn := bn) (k := k) hj
    show shl bn k (n - 1) j < 256 ∧ shl bn k (n - 1) j ≠ q ∧ ln (shl bn k (n - 1) j % sc) ≠ some (shl bn k (n - 1) j)
    rw [c3]
    exact ⟨(a5 i c1).1, fun e => c2 (a6 i k c1 hk (e.trans hq.symm)), (a5 i c1).2.2⟩
  · have hi : i < n - 1 := hi
    have hj : j < n - 1 := hj
    have e : shl bn k (n - 1) i = shl bn k (n - 1) j := e
    obtain ⟨i', c1, c2, c3, c4⟩ := leave_at (bn := bn) (k := k) hi
    obtain ⟨j', d1, d2, d3, d4⟩ := leave_at (bn := bn) (k := k) hj
    rw [c3, d3] at e
    have := a6 i' j' c1 d1 e
    omega
  · rcases a7 r hr (by omega) hd with c | ⟨i, c1, c2⟩
    · exact Or.inl c
    · have hik : i ≠ k := fun e => hrq (by rw [← c2, e, hq])
      obtain ⟨j, d1, d2⟩ := leave_has (bn := bn) c1 hk hik
      exact Or.inr ⟨j, d1, d2.trans c2⟩
/-- the oldest leaves and goes home -/
theorem ok_old {x : Nat} {sc : Nat} {pl : Nat} {ln : Nat → Option Nat} {bn : Nat → Nat} {n : Nat} {dt : Nat → Bool} {hi : Int32} {sw : Int32} {mi : Int32} {hc : Int32} {co : Int32} (h : Ok x (sc, pl, ln, bn, n, dt, hi, sw, mi, hc, co)) (hn : 0 < n) : Ok x (cb_leave 0 (cb_bh (bn 0) (sc, pl, ln, bn, n, dt, hi, sw, mi, hc, co))) := by
  obtain ⟨a1, a2, a3, a4, a5, a6, a7⟩ := h
  refine ⟨a1, a2, by show n - 1 ≤ pl; omega, a4, fun j hj => ?_, fun i j hi hj e => ?_, fun r hr hrq hd => ?_⟩
  · have hj : j < n - 1 := hj
    obtain ⟨i, c1, c2, c3, -⟩ := leave_at (bn := bn) (k := 0) hj
    show shl bn 0 (n - 1) j < 256 ∧ shl bn 0 (n - 1) j ≠ x ∧ ln (shl bn 0 (n - 1) j % sc) ≠ some (shl bn 0 (n - 1) j)
    rw [c3]
    exact a5 i c1
  · have hi : i < n - 1 := hi
    have hj : j < n - 1 := hj
    have e : shl bn 0 (n - 1) i = shl bn 0 (n - 1) j := e
    obtain ⟨i', c1, c2, c3, c4⟩ := leave_at (bn := bn) (k := 0) hi
    obtain ⟨j', d1, d2, d3, d4⟩ := leave_at (bn := bn) (k := 0) hj
    rw [c3, d3] at e
    have := a6 i' j' c1 d1 e
    omega
  · have hd : ru dt (bn 0) false r = true := hd
    have hr0 : r ≠ bn 0 := fun e => by rw [e, ru_s] at hd; cases hd
    rw [ru_n _ _ hr0] at hd
    rcases a7 r hr hrq hd with c | ⟨i, c1, c2⟩
    · exact Or.inl c
    · have hik : i ≠ 0 := fun e => hr0 (by rw [← c2, e])
      obtain ⟨j, d1, d2⟩ := leave_has (bn := bn) (k := 0) c1 hn hik
      exact Or.inr ⟨j, d1, d2.trans c2⟩
theorem ru_none {ln : Nat → Option Nat} {s t r : Nat} (h : ru ln s none t = some r) : t ≠ s ∧ ln t = some r := by
  unfold ru at h
  split at h
  · cases h
  · rename_i hn
    exact ⟨hn, h⟩
theorem ok_sitn {x s q : Nat} {sc : Nat} {pl : Nat} {ln : Nat → Option Nat} {bn : Nat → Nat} {n : Nat} {dt : Nat → Bool} {hi : Int32} {sw : Int32} {mi : Int32} {hc : Int32} {co : Int32} (h : Ok x (sc, pl, ln, bn, n, dt, hi, sw, mi, hc, co)) (hs : ln s = some q) (hn : n < pl) : Ok x (cb_sit q (sc, pl, ru ln s none, bn, n, dt, hi, sw, mi, hc, co)) := by
  obtain ⟨a1, a2, a3, a4, a5, a6, a7⟩ := h
  obtain ⟨b1, b2, b3, b4⟩ := a4 s q hs
  have hne : ∀ k, k < n → bn k ≠ q := fun k hk e => (a5 k hk).2.2 (by rw [e, b2]; exact hs)
  refine ⟨a1, a2, by show n + 1 ≤ pl; omega, fun t r ht => a4 t r (ru_none ht).2, fun k hk => ?_, fun i j hi hj e => ?_, fun r hr hrq hd => ?_⟩
  · have hk : k < n + 1 := hk
    show ru bn n q k < 256 ∧ ru bn n q k ≠ x ∧ ru ln s none (ru bn n q k % sc) ≠ some (ru bn n q k)
    by_cases hkn : k = n
    · subst hkn
      rw [ru_s]
      exact ⟨b3, b4, fun e => (ru_none e).1 b2⟩
    · rw [ru_n _ _ hkn]
      have := a5 k (by omega)
      exact ⟨this.1, this.2.1, fun e => this.2.2 (ru_none e).2⟩
  · have hi : i < n + 1 := hi
    have hj : j < n + 1 := hj
    have e : ru bn n q i = ru bn n q j := e
    by_cases hin : i = n
    · by_cases hjn : j = n
      · omega
      · rw [hin, ru_s, ru_n _ _ hjn] at e
        exact absurd e.symm (hne j (by omega))
    · by_cases hjn : j = n
      · rw [hjn, ru_s, ru_n _ _ hin] at e
        exact absurd e (hne i (by omega))
      · rw [ru_n _ _ hin, ru_n _ _ hjn] at e
        exact a6 i j (by omega) (by omega) e
  · show ru ln s none (r % sc) = some r ∨ ∃ k, k < n + 1 ∧ ru bn n q k = r
    by_cases hq : r = q
    · exact Or.inr ⟨n, by omega, by rw [ru_s, hq]⟩
    · rcases a7 r hr hrq hd with c | ⟨i, c1, c2⟩
      · refine Or.inl ?_
        rw [ru_n]
        · exact c
        · intro e
          rw [e, hs] at c
          exact hq (Option.some.inj c).symm
      · exact Or.inr ⟨i, by omega, by rw [ru_n _ _ (by omega)]; exact c2⟩
theorem ok_throw {x s : Nat} {u : CBu} (h : Ok x u) : Ok x (cb_throw s u) := by
  obtain ⟨sc, pl, ln, bn, n, dt, hi, sw, mi, hc, co⟩ := u
  unfold cb_throw
  dsimp only
  split
  · exact h
  · rename_i q hs
    have h0 := h
    obtain ⟨a1, a2, a3, a4, a5, a6, a7⟩ := h0
    split
    · rename_i hp
      refine ⟨a1, a2, a3, fun t r ht => a4 t r (ru_none ht).2, fun k hk => ?_, a6, fun r hr hrq hd => ?_⟩
      · have hk : k < n := hk
        omega
      · have hd : ru dt q false r = true := hd
        have hrq2 : r ≠ q := fun e => by rw [e, ru_s] at hd; cases hd
        rw [ru_n _ _ hrq2] at hd
        rcases a7 r hr hrq hd with c | ⟨i, c1, c2⟩
        · refine Or.inl ?_
          show ru ln s none (r % sc) = some r
          rw [ru_n]
          · exact c
          · intro e
            rw [e, hs] at c
            exact hrq2 (Option.some.inj c).symm
        · omega
    · rename_i hp
      split
      · rename_i hn
        have h1 := ok_old h (show 0 < n by omega)
        exact ok_sitn (s := s) (q := q) h1 hs (show n - 1 < pl by omega)
      · rename_i hn
        exact ok_sitn h hs (show n < pl by omega)
theorem throw_ln (s : Nat) (u : CBu) : cb_ln (cb_throw s u) s = none ∧ cb_sc (cb_throw s u) = cb_sc u := by
  obtain ⟨sc, pl, ln, bn, n, dt, hi, sw, mi, hc, co⟩ := u
  unfold cb_throw
  dsimp only
  split
  · rename_i h
    exact ⟨h, rfl⟩
  · split
    · exact ⟨ru_s _ _ _, rfl⟩
    · split
      · exact ⟨ru_s _ _ _, rfl⟩
      · exact ⟨ru_s _ _ _, rfl⟩
theorem ok_put {q : Nat} {w : Bool} {u : CBu} (h : Ok q u) (hq : q < 256) (hl : cb_ln u (q % cb_sc u) = none) : Ok 256 (cb_put (q % cb_sc u) q w u) := by
  obtain ⟨sc, pl, ln, bn, n, dt, hi, sw, mi, hc, co⟩ := u
  have hl : ln (q % sc) = none := hl
  obtain ⟨a1, a2, a3, a4, a5, a6, a7⟩ := h
  refine ⟨a1, a2, a3, fun t r ht => ?_, fun k hk => ?_, a6, fun r hr _ hd => ?_⟩
  · have ht : ru ln (q % sc) (some q) t = some r := ht
    unfold ru at ht
    split at ht
    · rename_i ht2
      cases ht
      exact ⟨by rw [ht2]; exact Nat.mod_lt _ (okS_lt a1).1, ht2.symm, hq, by omega⟩
    · obtain ⟨b1, b2, b3, -⟩ := a4 t r ht
      exact ⟨b1, b2, b3, by omega⟩
  · obtain ⟨b1, b2, b3⟩ := a5 k hk
    refine ⟨b1, by omega, fun e => ?_⟩
    have e : ru ln (q % sc) (some q) (bn k % sc) = some (bn k) := e
    unfold ru at e
    split at e
    · cases e
      exact b2 rfl
    · exact b3 e
  · show ru ln (q % sc) (some q) (r % sc) = some r ∨ ∃ k, k < n ∧ bn k = r
    by_cases hrq : r = q
    · exact Or.inl (by rw [hrq, ru_s])
    · have hd : (if w then ru dt q true else dt) r = true := hd
      have hd : dt r = true := by
        cases w
        · exact hd
        · have hd : ru dt q true r = true := hd
          rw [ru_n _ _ hrq] at hd
          exact hd
      rcases a7 r hr hrq hd with c | c
      · refine Or.inl ?_
        rw [ru_n]
        · exact c
        · intro e
          rw [e, hl] at c
          cases c
      · exact Or.inr c
theorem ok_acc {q : Nat} {w : Bool} {u : CBu} (h : Ok 256 u) (hq : q < 256) : Ok 256 (cb_acc q w u) := by
  obtain ⟨sc, pl, ln, bn, n, dt, hi, sw, mi, hc, co⟩ := u
  unfold cb_acc
  have h0 := h
  obtain ⟨a1, a2, a3, a4, a5, a6, a7⟩ := h0
  split
  · rename_i hln
    have hln : ln (q % sc) = some q := hln
    refine ⟨a1, a2, a3, a4, a5, a6, fun r hr hr2 hd => ?_⟩
    show ln (r % sc) = some r ∨ ∃ k, k < n ∧ bn k = r
    by_cases hrq : r = q
    · exact Or.inl (by rw [hrq]; exact hln)
    · have hd : (if w then ru dt q true else dt) r = true := hd
      cases w
      · exact a7 r hr hr2 hd
      · have hd : ru dt q true r = true := hd
        rw [ru_n _ _ hrq] at hd
        exact a7 r hr hr2 hd
  · rename_i hln
    have hln : ln (q % sc) ≠ some q := hln
    split
    · rename_i hs
      have hs : fnd (fun k => decide (bn k = q)) n = none := hs
      have h1 : Ok q (cb_missed (sc, pl, ln, bn, n, dt, hi, sw, mi, hc, co)) := ok_in (q := q) h hln (fun k hk e => by have := fnd_of_none hs k hk; simp [e] at this)
      have h2 := ok_throw (s := q % sc) h1
      obtain ⟨e1, e2⟩ := throw_ln (q % sc) (cb_missed (sc, pl, ln, bn, n, dt, hi, sw, mi, hc, co))
      have h3 := ok_put (w := w) h2 hq (by rw [e2]; exact e1)
      rw [e2] at h3
      exact h3
    · rename_i k hs
      have hs : fnd (fun k => decide (bn k = q)) n = some k := hs
      obtain ⟨hk, hb, -⟩ := fnd_of_some hs
      have h1 : Ok q (cb_leave k (cb_swapped (sc, pl, ln, bn, n, dt, hi, sw, mi, hc, co))) := ok_leave (k := k) h hk (of_decide_eq_true hb)
      have h2 := ok_throw (s := q % sc) h1
      obtain ⟨e1, e2⟩ := throw_ln (q % sc) (cb_leave k (cb_swapped (sc, pl, ln, bn, n, dt, hi, sw, mi, hc, co)))
      have h3 := ok_put (w := w) h2 hq (by rw [e2]; exact e1)
      rw [e2] at h3
      exact h3
theorem ok_of {u : CBu} (h : Ok 256 u) : cb_bd u := by
  obtain ⟨sc, pl, ln, bn, n, dt, hi, sw, mi, hc, co⟩ := u
  obtain ⟨a1, a2, a3, a4, a5, a6, a7⟩ := h
  exact ⟨a1, a2, by omega, fun s q hs => (a4 s q hs).2.2.1, fun k hk => (a5 k hk).1⟩
theorem ok_to {u : CBu} {x : Nat} (hx : 256 ≤ x) (h : Ok 256 u) : Ok x u := by
  obtain ⟨sc, pl, ln, bn, n, dt, hi, sw, mi, hc, co⟩ := u
  obtain ⟨a1, a2, a3, a4, a5, a6, a7⟩ := h
  refine ⟨a1, a2, a3, fun s q hs => ?_, fun k hk => ?_, a6, fun q hq _ => a7 q hq (by omega)⟩
  · have := a4 s q hs
    exact ⟨this.1, this.2.1, this.2.2.1, by omega⟩
  · have := a5 k hk
    exact ⟨this.1, by omega, this.2.2⟩
theorem ok_empty {s' p' : Nat} (u : CBu) (hs : s' = 1 ∨ s' = 2 ∨ s' = 4 ∨ s' = 8 ∨ s' = 16) (hp : p' ≤ 8) : Ok 256 (cb_empty s' p' u) := by
  obtain ⟨sc, pl, ln, bn, n, dt, hi, sw, mi, hc, co⟩ := u
  exact ⟨hs, hp, Nat.zero_le _, fun s q h => absurd h (by intro e; cases e), fun k hk => absurd hk (Nat.not_lt_zero _), fun i j hi => absurd hi (Nat.not_lt_zero _), fun q _ _ h => Bool.noConfusion h⟩
/-! counting -/
theorem cnt_ru (p : Nat → Bool) (q : Nat) : ∀ n, cnt (ru p q false) n + (if q < n ∧ p q = true then 1 else 0) = cnt p n
  | 0 => by rw [if_neg (by omega)]; rfl
  | n + 1 => by
    have ih := cnt_ru p q n
    by_cases hq : q = n
    · subst hq
      rw [if_neg (by omega)] at ih
      rw [cnt_n (ru_s p q false)]
      by_cases hp : p q = true
      · rw [if_pos ⟨by omega, hp⟩, cnt_s hp]
        omega
      · rw [if_neg (fun e => hp e.2), cnt_n (Bool.eq_false_iff.mpr hp)]
        omega
    · have e : ru p q false n = p n := ru_n p false (by omega)
      have ed : (q < n + 1 ∧ p q = true) ↔ (q < n ∧ p q = true) := ⟨fun h => ⟨by omega, h.2⟩, fun h => ⟨by omega, h.2⟩⟩
      have ee : (if q < n + 1 ∧ p q = true then 1 else 0) = (if q < n ∧ p q = true then 1 else 0) := by
        by_cases hx : q < n ∧ p q = true
        · rw [if_pos hx, if_pos (ed.mpr hx)]
        · rw [if_neg hx, if_neg (fun e => hx (ed.mp e))]
      rw [ee]
      by_cases hp : p n = true
      · rw [cnt_s (e.trans hp), cnt_s hp]
        omega
      · have hp := Bool.eq_false_iff.mpr hp
        rw [cnt_n (e.trans hp), cnt_n hp]
        omega
theorem cnt_congr {p q : Nat → Bool} : ∀ {n : Nat}, (∀ j, j < n → p j = q j) → cnt p n = cnt q n
  | 0, _ => rfl
  | n + 1, h => by
    unfold cnt
    rw [cnt_congr (n := n) (fun j hj => h j (by omega)), h n (by omega)]
theorem cnt_zero {p : Nat → Bool} : ∀ {n : Nat}, (∀ j, j < n → p j = false) → cnt p n = 0
  | 0, _ => rfl
  | n + 1, h => by rw [cnt_n (h n (by omega)), cnt_zero (fun j hj => h j (by omega))]
/-! all home -/
def BhI (N : Nat) (u0 u : CBu) : Prop := match u0, u with
  | (sc1, pl1, ln1, bn1, n1, dt1, hi1, sw1, mi1, hc1, co1), (sc, pl, ln, bn, n, dt, hi, sw, mi, hc, co) => (sc = sc1 ∧ pl = pl1 ∧ ln = ln1 ∧ bn = bn1 ∧ n = n1 ∧ hi = hi1 ∧ sw = sw1 ∧ mi = mi1) ∧ hc + nI (cnt dt N) = hc1 + nI (cnt dt1 N) ∧ co + nI (10 * cnt dt N) = co1 + nI (10 * cnt dt1 N) ∧ (∀ j, N ≤ j → dt j = dt1 j) ∧ ∀ j, dt j = true → dt1 j = true
theorem bhi_rf (N : Nat) (u : CBu) : BhI N u u := by
  obtain ⟨sc, pl, ln, bn, n, dt, hi, sw, mi, hc, co⟩ := u
  exact ⟨⟨rfl, rfl, rfl, rfl, rfl, rfl, rfl, rfl⟩, rfl, rfl, fun _ _ => rfl, fun _ h => h⟩
theorem bhi_bh {N q : Nat} {u0 u : CBu} (hq : q < N) (h : BhI N u0 u) : BhI N u0 (cb_bh q u) := by
  obtain ⟨sc1, pl1, ln1, bn1, n1, dt1, hi1, sw1, mi1, hc1, co1⟩ := u0
  obtain ⟨sc, pl, ln, bn, n, dt, hi, sw, mi, hc, co⟩ := u
  obtain ⟨h1, h2, h3, h4, h5⟩ := h
  have e := cnt_ru dt q N
  refine ⟨h1, ?_, ?_, fun j hj => ?_, fun j hj => ?_⟩
  · show hc + cI (dt q) 1 + nI (cnt (ru dt q false) N) = hc1 + nI (cnt dt1 N)
    rw [← h2, ← e]
    by_cases hd : dt q = true
    · rw [if_pos ⟨hq, hd⟩, hd, cI_t, Int32.add_assoc, nI_succ, Int32.add_comm 1]
    · rw [if_neg (fun e => hd e.2), Bool.eq_false_iff.mpr hd, cI_f, Int32.add_zero]
      rfl
  · show co + cI (dt q) 10 + nI (10 * cnt (ru dt q false) N) = co1 + nI (10 * cnt dt1 N)
    rw [← h3, ← e]
    by_cases hd : dt q = true
    · rw [if_pos ⟨hq, hd⟩, hd, cI_t, Int32.add_assoc, Nat.mul_add, show 10 * 1 = 10 from rfl, ← nI_add, Int32.add_comm 10]
      rfl
    · rw [if_neg (fun e => hd e.2), Bool.eq_false_iff.mpr hd, cI_f, Int32.add_zero]
      rfl
  · show ru dt q false j = dt1 j
    rw [ru_n _ _ (by omega)]
    exact h4 j hj
  · have hj : ru dt q false j = true := hj
    unfold ru at hj
    split at hj
    · cases hj
    · exact h5 j hj
theorem bh_dt {q j : Nat} {u : CBu} (h : cb_dt (cb_bh q u) j = true) : cb_dt u j = true ∧ j ≠ q := by
  obtain ⟨sc, pl, ln, bn, n, dt, hi, sw, mi, hc, co⟩ := u
  have hj : ru dt q false j = true := h
  unfold ru at hj
  split at hj
  · cases hj
  · rename_i hn
    exact ⟨hj, hn⟩
theorem bhi_S {N : Nat} {u : CBu} (hN : ∀ s q, cb_ln u s = some q → q < N) : ∀ i, BhI N u (cb_bhS i u) ∧ (∀ s q, s < i → cb_ln u s = some q → cb_dt (cb_bhS i u) q = false) ∧ ∀ j, cb_dt (cb_bhS i u) j = true → cb_dt u j = true
  | 0 => ⟨bhi_rf N u, fun s q hs => absurd hs (Nat.not_lt_zero s), fun j h => h⟩
  | i + 1 => by
    obtain ⟨h1, h2, h3⟩ := bhi_S hN i
    unfold cb_bhS
    cases hl : cb_ln u i with
    | none =>
      dsimp only
      refine ⟨h1, fun s q hs hq => ?_, h3⟩
      have hsi : s ≠ i := by
        intro e
        rw [e, hl] at hq
        cases hq
      exact h2 s q (by omega) hq
    | some r =>
      dsimp only
      refine ⟨bhi_bh (hN i r hl) h1, fun s q hs hq => ?_, fun j hj => h3 j (bh_dt hj).1⟩
      cases hd : cb_dt (cb_bh r (cb_bhS i u)) q with
      | false => rfl
      | true =>
        obtain ⟨e1, e2⟩ := bh_dt hd
        have hsi : s ≠ i := by
          intro e
          rw [e, hl] at hq
          exact e2 (Option.some.inj hq).symm
        rw [h2 s q (by omega) hq] at e1
        cases e1
theorem bhi_B {N : Nat} {u v : CBu} {b : Nat → Nat} (h : BhI N u v) : ∀ j, (∀ k, k < j → b k < N) → BhI N u (cb_bhB b j v) ∧ ∀ q, cb_dt (cb_bhB b j v) q = true → cb_dt v q = true ∧ ∀ k, k < j → b k ≠ q
  | 0, _ => ⟨h, fun q hq => ⟨hq, fun k hk => absurd hk (Nat.not_lt_zero k)⟩⟩
  | j + 1, hb => by
    obtain ⟨h1, h2⟩ := bhi_B (b := b) h j (fun k hk => hb k (by omega))
    refine ⟨bhi_bh (hb j (by omega)) h1, fun q hq => ?_⟩
    obtain ⟨e1, e2⟩ := bh_dt hq
    obtain ⟨e3, e4⟩ := h2 q e1
    refine ⟨e3, fun k hk => ?_⟩
    by_cases hkj : k = j
    · rw [hkj]
      exact fun e => e2 e.symm
    · exact e4 k (by omega)
theorem bring_I {N : Nat} {u : CBu} (h : Ok N u) (hN : N = 256) : BhI N u (cb_bring u) ∧ ∀ j, j < N → cb_dt (cb_bring u) j = false := by
  obtain ⟨sc, pl, ln, bn, n, dt, hi, sw, mi, hc, co⟩ := u
  obtain ⟨a1, a2, a3, a4, a5, a6, a7⟩ := h
  obtain ⟨s1, s2, s3⟩ := bhi_S (N := N) (u := (sc, pl, ln, bn, n, dt, hi, sw, mi, hc, co)) (fun s q hs => by have := (a4 s q hs).2.2.1; omega) sc
  obtain ⟨b1, b2⟩ := bhi_B (b := bn) s1 n (fun k hk => by have := (a5 k hk).1; omega)
  refine ⟨b1, fun j hj => ?_⟩
  cases hd : cb_dt (cb_bring (sc, pl, ln, bn, n, dt, hi, sw, mi, hc, co)) j with
  | false => rfl
  | true =>
    have hd : cb_dt (cb_bhB bn n (cb_bhS sc (sc, pl, ln, bn, n, dt, hi, sw, mi, hc, co))) j = true := hd
    obtain ⟨e1, e2⟩ := b2 j hd
    rcases a7 j (by omega) (by omega) (s3 j e1) with c | ⟨k, c1, c2⟩
    · rw [s2 (j % sc) j (Nat.mod_lt _ (okS_lt a1).1) c] at e1
      cases e1
    · exact absurd c2 (e2 k c1)
theorem ok_BhI {N : Nat} {u v : CBu} (hN : N = 256) (h0 : Ok N u) (h : BhI N u v) (hd : ∀ j, j < N → cb_dt v j = false) : Ok N v := by
  obtain ⟨sc1, pl1, ln1, bn1, n1, dt1, hi1, sw1, mi1, hc1, co1⟩ := u
  obtain ⟨sc, pl, ln, bn, n, dt, hi, sw, mi, hc, co⟩ := v
  obtain ⟨⟨a1, a2, a3, a4, a5, a6, a7, a8⟩, -⟩ := h
  subst a1; subst a2; subst a3; subst a4; subst a5
  obtain ⟨b1, b2, b3, b4, b5, b6, b7⟩ := h0
  refine ⟨b1, b2, b3, b4, b5, b6, fun q hq _ hq2 => ?_⟩
  have hd : dt q = false := hd q (by omega)
  rw [hd] at hq2
  cases hq2

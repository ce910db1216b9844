/-! what a state is, as values; the cells that hold it; what each method makes of it -/
abbrev CBu : Type := Nat × Nat × (Nat → Option Nat) × (Nat → Nat) × Nat × (Nat → Bool) × Int32 × Int32 × Int32 × Int32 × Int32
abbrev LAu : Type := (Nat → Nat) × (Nat → Bool) × Nat × Nat
abbrev OBu : Type := (Nat → Int32) × (Nat → Int32) × CBu × CBu × LAu
abbrev MDu : Type := (Nat → Int32) × (Nat → Int32) × (Nat → Nat) × (Nat → Nat) × (Nat → Option Nat) × (Nat → Nat) × (Nat → Nat) × (Nat → Bool) × (Nat → Int32) × Int32 × Int32 × Int32 × Int32 × (Nat → Nat) × Nat × Nat
abbrev T3 (cyI cyZ cyJ : ClassId) : List (ClassId × FieldType) := [(cyI, .int), (cyZ, .boolean)]
abbrev CBc (cyI cyZ : ClassId) (h a1 a2 a3 : Nat) (u : CBu) : va_W := match u with
  | (sc, pl, ln, bn, n, dt, hi, sw, mi, hc, co) => [(h, .inr (0, [.int (nI sc), .int (nI pl), .ref a1, .ref a2, .int (nI n), .ref a3, .int hi, .int sw, .int mi, .int hc, .int co])), (a1, .inl (cyI, 16, .inl (fun j => oI (ln j)))), (a2, .inl (cyI, 8, .inl (fun j => nI (bn j)))), (a3, .inl (cyZ, 256, .inl (fun j => bI (dt j))))]
abbrev LAc (cyI cyZ : ClassId) (h a1 a2 : Nat) (u : LAu) : va_W := match u with
  | (ll, lw, lc, lx) => [(h, .inr (1, [.ref a1, .ref a2, .int (nI lc), .int (nI lx)])), (a1, .inl (cyI, 150, .inl (fun j => nI (ll j)))), (a2, .inl (cyZ, 150, .inl (fun j => bI (lw j))))]
abbrev OBo (cyI : ClassId) (h a1 a2 hu ht hla : Nat) (wr hm : Nat → Int32) : va_W := [(h, .inr (2, [.ref a1, .ref a2, .ref hu, .ref ht, .ref hla])), (a1, .inl (cyI, 1024, .inl wr)), (a2, .inl (cyI, 1024, .inl hm))]
abbrev MDc (cyI : ClassId) (h a1 a2 a3 a4 a5 a6 a7 a8 a9 a10 : Nat) (u : MDu) : va_W := match u with
  | (mw, mh, ms, mp, ml, mb, mm, md, mc, mhi, msw, mmi, mhc, ma, mq, mt) => [(h, .inr (3, [.ref a1, .ref a2, .ref a3, .ref a4, .ref a5, .ref a6, .ref a7, .ref a8, .ref a9, .int mhi, .int msw, .int mmi, .int mhc, .ref a10, .int (nI mq), .int (nI mt)])), (a1, .inl (cyI, 1024, .inl mw)), (a2, .inl (cyI, 1024, .inl mh)), (a3, .inl (cyI, 2, .inl (fun j => nI (ms j)))), (a4, .inl (cyI, 2, .inl (fun j => nI (mp j)))), (a5, .inl (cyI, 32, .inl (fun j => oI (ml j)))), (a6, .inl (cyI, 16, .inl (fun j => nI (mb j)))), (a7, .inl (cyI, 2, .inl (fun j => nI (mm j)))), (a8, .inl (cyI, 512, .inl (fun j => bI (md j)))), (a9, .inl (cyI, 2, .inl mc)), (a10, .inl (cyI, 150, .inl (fun j => nI (ma j))))]
/-! numbers and rows -/
def cI (b : Bool) (x : Int32) : Int32 := if b then x else 0
/-- from a up to b each takes its right neighbour's -/
def shl (f : Nat → Nat) (a b : Nat) : Nat → Nat := fun j => if a ≤ j ∧ j < b then f (j + 1) else f j
/-- from above a up to b each takes its left neighbour's -/
def shr (f : Nat → Nat) (a b : Nat) : Nat → Nat := fun j => if a < j ∧ j ≤ b then f (j - 1) else f j
/-- from a up to b all are v -/
def fil {α : Type} (f : Nat → α) (a b : Nat) (v : α) : Nat → α := fun j => if a ≤ j ∧ j < b then v else f j
/-- from a up to b as in g -/
def cpy {α : Type} (f g : Nat → α) (a b : Nat) : Nat → α := fun j => if a ≤ j ∧ j < b then g j else f j
/-- the first below n with p -/
def fnd (p : Nat → Bool) : Nat → Option Nat
  | 0 => none
  | n + 1 => match fnd p n with
    | some i => some i
    | none => if p n then some n else none
/-- how many below n with p -/
def cnt (p : Nat → Bool) : Nat → Nat
  | 0 => 0
  | n + 1 => cnt p n + (if p n then 1 else 0)
theorem fnd_none {p : Nat → Bool} : ∀ {n : Nat}, (∀ j, j < n → p j = false) → fnd p n = none
  | 0, _ => rfl
  | n + 1, h => by
    have h1 := fnd_none (p := p) (n := n) (fun j hj => h j (by omega))
    simp [fnd, h1, h n (by omega)]
theorem fnd_some {p : Nat → Bool} : ∀ {n i : Nat}, i < n → (∀ j, j < i → p j = false) → p i = true → fnd p n = some i
  | 0, i, hi, _, _ => absurd hi (Nat.not_lt_zero _)
  | n + 1, i, hi, h, hp => by
    by_cases h2 : i = n
    · subst h2
      simp [fnd, fnd_none h, hp]
    · simp [fnd, fnd_some (n := n) (by omega) h hp]
theorem fnd_of_none {p : Nat → Bool} : ∀ {n : Nat}, fnd p n = none → ∀ j, j < n → p j = false
  | 0, _, j, hj => absurd hj (Nat.not_lt_zero _)
  | n + 1, h, j, hj => by
    cases h1 : fnd p n with
    | some i => simp [fnd, h1] at h
    | none =>
      by_cases h2 : j = n
      · subst h2
        cases h3 : p j with
        | false => rfl
        | true => simp [fnd, h1, h3] at h
      · exact fnd_of_none h1 j (by omega)
theorem fnd_of_some {p : Nat → Bool} : ∀ {n i : Nat}, fnd p n = some i → i < n ∧ p i = true ∧ ∀ j, j < i → p j = false
  | 0, i, h => by simp [fnd] at h
  | n + 1, i, h => by
    cases h1 : fnd p n with
    | some k =>
      simp [fnd, h1] at h
      subst h
      obtain ⟨a, b, c⟩ := fnd_of_some h1
      exact ⟨by omega, b, c⟩
    | none =>
      cases h3 : p n with
      | false => simp [fnd, h1, h3] at h
      | true =>
        simp [fnd, h1, h3] at h
        subst h
        exact ⟨by omega, h3, fnd_of_none h1⟩
theorem cnt_le (p : Nat → Bool) : ∀ n, cnt p n ≤ n
  | 0 => Nat.le_refl _
  | n + 1 => by
    have := cnt_le p n
    unfold cnt
    split <;> omega
theorem cnt_s {p : Nat → Bool} {n : Nat} (h : p n = true) : cnt p (n + 1) = cnt p n + 1 := by simp [cnt, h]
theorem cnt_n {p : Nat → Bool} {n : Nat} (h : p n = false) : cnt p (n + 1) = cnt p n := by simp [cnt, h]
/-! the cache and its bench -/
def cb_empty (s' p' : Nat) : CBu → CBu := fun (sc, pl, ln, bn, n, dt, hi, sw, mi, hc, co) => (s', p', (fun _ => none), bn, 0, (fun _ => false), hi, sw, mi, hc, co)
def cb_bh (q : Nat) : CBu → CBu := fun (sc, pl, ln, bn, n, dt, hi, sw, mi, hc, co) => (sc, pl, ln, bn, n, ru dt q false, hi, sw, mi, hc + cI (dt q) 1, co + cI (dt q) 10)
def cb_leave (k : Nat) : CBu → CBu := fun (sc, pl, ln, bn, n, dt, hi, sw, mi, hc, co) => (sc, pl, ln, shl bn k (n - 1), n - 1, dt, hi, sw, mi, hc, co)
def cb_sit (q : Nat) : CBu → CBu := fun (sc, pl, ln, bn, n, dt, hi, sw, mi, hc, co) => (sc, pl, ln, ru bn n q, n + 1, dt, hi, sw, mi, hc, co)
def cb_seat (q : Nat) : CBu → Option Nat := fun (sc, pl, ln, bn, n, dt, hi, sw, mi, hc, co) => fnd (fun k => decide (bn k = q)) n
def cb_throw (s : Nat) : CBu → CBu := fun (sc, pl, ln, bn, n, dt, hi, sw, mi, hc, co) => match ln s with
  | none => (sc, pl, ln, bn, n, dt, hi, sw, mi, hc, co)
  | some q => if pl = 0 then cb_bh q (sc, pl, ru ln s none, bn, n, dt, hi, sw, mi, hc, co) else if pl ≤ n then cb_sit q (cb_leave 0 (cb_bh (bn 0) (sc, pl, ru ln s none, bn, n, dt, hi, sw, mi, hc, co))) else cb_sit q (sc, pl, ru ln s none, bn, n, dt, hi, sw, mi, hc, co)
def cb_put (s q : Nat) (w : Bool) : CBu → CBu := fun (sc, pl, ln, bn, n, dt, hi, sw, mi, hc, co) => (sc, pl, ru ln s (some q), bn, n, if w then ru dt q true else dt, hi, sw, mi, hc, co)
def cb_hit (q : Nat) (w : Bool) : CBu → CBu := fun (sc, pl, ln, bn, n, dt, hi, sw, mi, hc, co) => (sc, pl, ln, bn, n, if w then ru dt q true else dt, hi + 1, sw, mi, hc, co + 1)
def cb_missed : CBu → CBu := fun (sc, pl, ln, bn, n, dt, hi, sw, mi, hc, co) => (sc, pl, ln, bn, n, dt, hi, sw, mi + 1, hc, co + 20)
def cb_swapped : CBu → CBu := fun (sc, pl, ln, bn, n, dt, hi, sw, mi, hc, co) => (sc, pl, ln, bn, n, dt, hi, sw + 1, mi, hc, co + 3)
def cb_sc : CBu → Nat := fun (sc, pl, ln, bn, n, dt, hi, sw, mi, hc, co) => sc
def cb_ln : CBu → Nat → Option Nat := fun (sc, pl, ln, bn, n, dt, hi, sw, mi, hc, co) => ln
def cb_dt : CBu → Nat → Bool := fun (sc, pl, ln, bn, n, dt, hi, sw, mi, hc, co) => dt
def cb_co : CBu → Int32 := fun (sc, pl, ln, bn, n, dt, hi, sw, mi, hc, co) => co
def cb_hc : CBu → Int32 := fun (sc, pl, ln, bn, n, dt, hi, sw, mi, hc, co) => hc
def cb_acc (q : Nat) (w : Bool) (u : CBu) : CBu := if cb_ln u (q % cb_sc u) = some q then cb_hit q w u else match cb_seat q u with
  | none => cb_put (q % cb_sc u) q w (cb_throw (q % cb_sc u) (cb_missed u))
  | some k => cb_put (q % cb_sc u) q w (cb_throw (q % cb_sc u) (cb_leave k (cb_swapped u)))
def cb_bhS (i : Nat) (u : CBu) : CBu := match i with
  | 0 => u
  | i + 1 => match cb_ln u i with
    | none => cb_bhS i u
    | some q => cb_bh q (cb_bhS i u)
def cb_bhB (bn : Nat → Nat) (j : Nat) (u : CBu) : CBu := match j with
  | 0 => u
  | j + 1 => cb_bh (bn j) (cb_bhB bn j u)
def cb_bring : CBu → CBu := fun (sc, pl, ln, bn, n, dt, hi, sw, mi, hc, co) => cb_bhB bn n (cb_bhS sc (sc, pl, ln, bn, n, dt, hi, sw, mi, hc, co))
def cb_where (q : Nat) : CBu → Nat := fun (sc, pl, ln, bn, n, dt, hi, sw, mi, hc, co) => if ln (q % sc) = some q then 1 else if (fnd (fun k => decide (bn k = q)) n).isSome then 2 else 0
/-- small enough for every index -/
def cb_bd : CBu → Prop := fun (sc, pl, ln, bn, n, dt, hi, sw, mi, hc, co) => (sc = 1 ∨ sc = 2 ∨ sc = 4 ∨ sc = 8 ∨ sc = 16) ∧ pl ≤ 8 ∧ n ≤ 8 ∧ (∀ s q, ln s = some q → q < 256) ∧ ∀ k, k < n → bn k < 256

/-! the ring of the last accesses, the whole -/
def la_add (q : Nat) (w : Bool) : LAu → LAu := fun (ll, lw, lc, lx) => (ru ll lx q, ru lw lx w, if lc < 150 then lc + 1 else lc, if lx + 1 < 150 then lx + 1 else 0)
def la_slot (k : Nat) : LAu → Nat := fun (ll, lw, lc, lx) => ((if lc < 150 then 0 else lx) + k) % 150
def la_bd : LAu → Prop := fun (ll, lw, lc, lx) => lc ≤ 150 ∧ lx < 150 ∧ ∀ k, k < 150 → ll k < 256
theorem la_bd_add {la : LAu} {q : Nat} (w : Bool) (hq : q < 256) (h : la_bd la) : la_bd (la_add q w la) := by
  obtain ⟨ll, lw, lc, lx⟩ := la
  obtain ⟨h1, h2, h3⟩ := h
  refine ⟨?_, ?_, fun k hk => ?_⟩
  · show (if lc < 150 then lc + 1 else lc) ≤ 150
    split <;> omega
  · show (if lx + 1 < 150 then lx + 1 else 0) < 150
    split <;> omega
  · show ru ll lx q k < 256
    unfold ru
    split
    · exact hq
    · exact h3 k hk
/-- the k last accesses tried on a cache -/
def la_try (la : LAu) (k : Nat) (u : CBu) : CBu := match k with
  | 0 => u
  | k + 1 => cb_acc (la.1 (la_slot k la)) (la.2.1 (la_slot k la)) (la_try la k u)
def la_trial (la : LAu) (s' p' : Nat) (u : CBu) : CBu := la_try la la.2.2.1 (cb_empty s' p' u)
/-- the best number of places up to k, what it costs, the trial's cache behind -/
def la_best (la : LAu) (s' : Nat) (k : Nat) (u : CBu) : Nat × Int32 × CBu := match k with
  | 0 => (0, cb_co (la_trial la s' 0 u) - cb_co u, la_trial la s' 0 u)
  | k + 1 => match la_best la s' k u with
    | (b, c, t) => if cb_co (la_trial la s' (k + 1) t) - cb_co t < c then (k + 1, cb_co (la_trial la s' (k + 1) t) - cb_co t, la_trial la s' (k + 1) t) else (b, c, la_trial la s' (k + 1) t)
/-- how far on: the next word -/
def nxt (a : Nat) (z : Int) : Nat := (((a : Int) + z) % 1024).toNat
def adr (a : Nat) (z : Int) (k : Nat) : Nat := match k with
  | 0 => a
  | k + 1 => nxt (adr a z k) z
def ob_walk (a : Nat) (z : Int) (k : Nat) (u : CBu) (la : LAu) : CBu × LAu := match k with
  | 0 => (u, la)
  | k + 1 => (cb_acc (adr a z k / 4) false (ob_walk a z k u la).1, la_add (adr a z k / 4) false (ob_walk a z k u la).2)
theorem nxt_lt (a : Nat) (z : Int) : nxt a z < 1024 := by
  unfold nxt
  omega
theorem adr_lt {a : Nat} (z : Int) (h : a < 1024) : ∀ k, adr a z k < 1024
  | 0 => h
  | k + 1 => nxt_lt _ _
def cb_lines : CBu → Nat := fun (sc, pl, ln, bn, n, dt, hi, sw, mi, hc, co) => n + cnt (fun s => (ln s).isSome) sc
def cb_dirty : CBu → Nat := fun (sc, pl, ln, bn, n, dt, hi, sw, mi, hc, co) => cnt dt 256

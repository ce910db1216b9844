/-! small laws of rows and numbers -/
theorem ru_id {α : Type} {f : Nat → α} {k : Nat} {v : α} (h : f k = v) : ru f k v = f := by
  funext j
  by_cases hj : j = k
  · subst hj; simp [ru, h]
  · simp [ru, hj]
theorem shl_0 (f : Nat → Nat) (a : Nat) : shl f a a = f := by
  funext j
  unfold shl
  rw [if_neg (by omega)]
theorem shl_s {f : Nat → Nat} {a i : Nat} (h : a ≤ i) : ru (shl f a i) i (shl f a i (i + 1)) = shl f a (i + 1) := by
  funext j
  unfold ru shl
  by_cases hj : j = i
  · subst hj
    rw [if_pos rfl, if_neg (by omega), if_pos (by omega)]
  · rw [if_neg hj]
    by_cases h2 : a ≤ j ∧ j < i
    · rw [if_pos h2, if_pos (by omega)]
    · rw [if_neg h2, if_neg (by omega)]
theorem fil_0 {α : Type} (f : Nat → α) (a : Nat) (v : α) : fil f a a v = f := by
  funext j
  unfold fil
  rw [if_neg (by omega)]
theorem fil_s {α : Type} {f : Nat → α} {a i : Nat} {v : α} (h : a ≤ i) : ru (fil f a i v) i v = fil f a (i + 1) v := by
  funext j
  unfold ru fil
  by_cases hj : j = i
  · subst hj
    rw [if_pos rfl, if_pos (by omega)]
  · rw [if_neg hj]
    by_cases h2 : a ≤ j ∧ j < i
    · rw [if_pos h2, if_pos (by omega)]
    · rw [if_neg h2, if_neg (by omega)]
theorem fil_in {α : Type} {f : Nat → α} {a b j : Nat} {v : α} (h1 : a ≤ j) (h2 : j < b) : fil f a b v j = v := by
  unfold fil
  rw [if_pos ⟨h1, h2⟩]
theorem cpy_0 {α : Type} (f g : Nat → α) (a : Nat) : cpy f g a a = f := by
  funext j
  unfold cpy
  rw [if_neg (by omega)]
theorem cpy_s {α : Type} {f g : Nat → α} {a i : Nat} (h : a ≤ i) : ru (cpy f g a i) i (g i) = cpy f g a (i + 1) := by
  funext j
  unfold ru cpy
  by_cases hj : j = i
  · subst hj
    rw [if_pos rfl, if_pos (by omega)]
  · rw [if_neg hj]
    by_cases h2 : a ≤ j ∧ j < i
    · rw [if_pos h2, if_pos (by omega)]
    · rw [if_neg h2, if_neg (by omega)]
theorem shr_0 (f : Nat → Nat) (b : Nat) : shr f b b = f := by
  funext j
  unfold shr
  rw [if_neg (by omega)]
/-- from the right: the places above i hold their left neighbours' already -/
theorem shr_s {f : Nat → Nat} {a i b : Nat} (h : a < i) (hb : i ≤ b) : ru (shr f i b) i (shr f i b (i - 1)) = shr f (i - 1) b := by
  funext j
  unfold ru shr
  by_cases hj : j = i
  · subst hj
    rw [if_pos rfl, if_neg (by omega), if_pos (by omega)]
  · rw [if_neg hj]
    by_cases h2 : i < j ∧ j ≤ b
    · rw [if_pos h2, if_pos (by omega)]
    · rw [if_neg h2, if_neg (by omega)]
theorem and_mask {q sc : Nat} (hq : q < 2 ^ 31) (hs : sc = 1 ∨ sc = 2 ∨ sc = 4 ∨ sc = 8 ∨ sc = 16) : nI q &&& nI (sc - 1) = nI (q % sc) := by
  rcases hs with rfl | rfl | rfl | rfl | rfl
  · exact pk_andN (by omega) 0 (by decide)
  · exact pk_andN (by omega) 1 (by decide)
  · exact pk_andN (by omega) 2 (by decide)
  · exact pk_andN (by omega) 3 (by decide)
  · exact pk_andN (by omega) 4 (by decide)
theorem mod16 {sc : Nat} (q : Nat) (hs : sc = 1 ∨ sc = 2 ∨ sc = 4 ∨ sc = 8 ∨ sc = 16) : q % sc < 16 := by
  rcases hs with rfl | rfl | rfl | rfl | rfl <;> omega
theorem modsc {sc : Nat} (q : Nat) (hs : sc = 1 ∨ sc = 2 ∨ sc = 4 ∨ sc = 8 ∨ sc = 16) : q % sc < sc := by
  rcases hs with rfl | rfl | rfl | rfl | rfl <;> omega
theorem oI_some (q : Nat) : oI (some q) = nI q := rfl
theorem cI_t (x : Int32) : cI true x = x := rfl
theorem cI_f (x : Int32) : cI false x = 0 := rfl
/-! what a step leaves within its bounds -/
theorem cb_bd_bh {u : CBu} (q : Nat) (h : cb_bd u) : cb_bd (cb_bh q u) := h
theorem cb_bd_leave {u : CBu} (k : Nat) (h : cb_bd u) : cb_bd (cb_leave k u) := by
  obtain ⟨sc, pl, ln, bn, n, dt, hi, sw, mi, hc, co⟩ := u
  obtain ⟨h1, h2, h3, h4, h5⟩ := h
  refine ⟨h1, h2, (by omega : n - 1 ≤ 8), h4, fun j hj => ?_⟩
  show shl bn k (n - 1) j < 256
  unfold shl
  split
  · exact h5 _ (by omega)
  · exact h5 _ (by omega)
theorem cb_bd_sit {u : CBu} {q : Nat} (hq : q < 256) (h : cb_bd u) (hn : u.2.2.2.2.1 < 8) : cb_bd (cb_sit q u) := by
  obtain ⟨sc, pl, ln, bn, n, dt, hi, sw, mi, hc, co⟩ := u
  obtain ⟨h1, h2, h3, h4, h5⟩ := h
  refine ⟨h1, h2, hn, h4, fun j hj => ?_⟩
  show ru bn n q j < 256
  unfold ru
  split
  · exact hq
  · exact h5 _ (by omega)
theorem cb_bd_none {u : CBu} (s : Nat) (h : cb_bd u) : cb_bd (u.1, u.2.1, ru u.2.2.1 s none, u.2.2.2) := by
  obtain ⟨sc, pl, ln, bn, n, dt, hi, sw, mi, hc, co⟩ := u
  obtain ⟨h1, h2, h3, h4, h5⟩ := h
  refine ⟨h1, h2, h3, fun s' q hq => ?_, h5⟩
  by_cases e : s' = s
  · subst e; exact absurd hq (by simp [ru])
  · exact h4 s' q (by simpa [ru, e] using hq)
theorem cb_bd_throw {u : CBu} (s : Nat) (h : cb_bd u) : cb_bd (cb_throw s u) := by
  obtain ⟨sc, pl, ln, bn, n, dt, hi, sw, mi, hc, co⟩ := u
  have h0 := h
  obtain ⟨h1, h2, h3, h4, h5⟩ := h0
  unfold cb_throw
  dsimp only
  cases hs : ln s with
  | none => exact h
  | some q =>
    have hq := h4 s q hs
    have hn := cb_bd_none s h
    dsimp only
    split
    · exact cb_bd_bh q hn
    · rename_i hp
      split
      · rename_i hp2
        refine cb_bd_sit hq (cb_bd_leave 0 (cb_bd_bh _ hn)) ?_
        show n - 1 < 8
        omega
      · rename_i hp2
        refine cb_bd_sit hq hn ?_
        show n < 8
        omega
theorem cb_bd_put {u : CBu} {s q : Nat} (w : Bool) (hq : q < 256) (h : cb_bd u) : cb_bd (cb_put s q w u) := by
  obtain ⟨sc, pl, ln, bn, n, dt, hi, sw, mi, hc, co⟩ := u
  obtain ⟨h1, h2, h3, h4, h5⟩ := h
  refine ⟨h1, h2, h3, fun s' r hr => ?_, h5⟩
  have hr : ru ln s (some q) s' = some r := hr
  unfold ru at hr
  split at hr
  · cases hr; exact hq
  · exact h4 s' r hr
theorem cb_bd_acc {u : CBu} {q : Nat} (w : Bool) (hq : q < 256) (h : cb_bd u) : cb_bd (cb_acc q w u) := by
  unfold cb_acc
  split
  · exact h
  · split
    · exact cb_bd_put w hq (cb_bd_throw _ (show cb_bd (cb_missed u) from h))
    · exact cb_bd_put w hq (cb_bd_throw _ (cb_bd_leave _ (show cb_bd (cb_swapped u) from h)))
theorem cb_bd_empty {u : CBu} {s' p' : Nat} (hs : s' = 1 ∨ s' = 2 ∨ s' = 4 ∨ s' = 8 ∨ s' = 16) (hp : p' ≤ 8) : cb_bd (cb_empty s' p' u) := by
  obtain ⟨sc, pl, ln, bn, n, dt, hi, sw, mi, hc, co⟩ := u
  exact ⟨hs, hp, Nat.zero_le _, fun _ _ h => by simp at h, fun k hk => absurd hk (Nat.not_lt_zero k)⟩
theorem cb_bhS_eq (i : Nat) (u : CBu) : ∃ (dt : Nat → Bool) (hc co : Int32), cb_bhS i u = (u.1, u.2.1, u.2.2.1, u.2.2.2.1, u.2.2.2.2.1, dt, u.2.2.2.2.2.2.1, u.2.2.2.2.2.2.2.1, u.2.2.2.2.2.2.2.2.1, hc, co) := by
  induction i with
  | zero => exact ⟨_, _, _, rfl⟩
  | succ i ih =>
    obtain ⟨dt, hc, co, ih⟩ := ih
    unfold cb_bhS
    split
    · exact ⟨dt, hc, co, ih⟩
    · rw [ih]; exact ⟨_, _, _, rfl⟩
theorem cb_bhB_eq (b : Nat → Nat) (i : Nat) (u : CBu) : ∃ (dt : Nat → Bool) (hc co : Int32), cb_bhB b i u = (u.1, u.2.1, u.2.2.1, u.2.2.2.1, u.2.2.2.2.1, dt, u.2.2.2.2.2.2.1, u.2.2.2.2.2.2.2.1, u.2.2.2.2.2.2.2.2.1, hc, co) := by
  induction i with
  | zero => exact ⟨_, _, _, rfl⟩
  | succ i ih =>
    obtain ⟨dt, hc, co, ih⟩ := ih
    unfold cb_bhB
    rw [ih]; exact ⟨_, _, _, rfl⟩

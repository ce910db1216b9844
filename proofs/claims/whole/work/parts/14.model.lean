/-! the reference: what each of its methods makes of its state; w is the world, 0 or 1 -/
def md_empties (w : Nat) : MDu → MDu := fun (mw, mh, ms, mp, ml, mb, mm, md, mc, mhi, msw, mmi, mhc, ma, mq, mt) => (mw, mh, ms, mp, fil ml (16 * w) (16 * w + 16) none, mb, ru mm w 0, fil md (256 * w) (256 * w + 256) false, mc, mhi, msw, mmi, mhc, ma, mq, mt)
def md_comes (w q : Nat) : MDu → MDu := fun (mw, mh, ms, mp, ml, mb, mm, md, mc, mhi, msw, mmi, mhc, ma, mq, mt) => (mw, (match w with | 0 => cpy mh mw (4 * q) (4 * q + 4) | _ + 1 => mh), ms, mp, ml, mb, mm, ru md (256 * w + q) false, ru mc w (mc w + 10), mhi, msw, mmi, mhc + (match w with | 0 => 1 | _ + 1 => 0), ma, mq, mt)
def md_goes (w q : Nat) : MDu → MDu := fun (mw, mh, ms, mp, ml, mb, mm, md, mc, mhi, msw, mmi, mhc, ma, mq, mt) => if md (256 * w + q) = true then md_comes w q (mw, mh, ms, mp, ml, mb, mm, md, mc, mhi, msw, mmi, mhc, ma, mq, mt) else (mw, mh, ms, mp, ml, mb, mm, md, mc, mhi, msw, mmi, mhc, ma, mq, mt)
def md_seat (w q : Nat) : MDu → Option Nat := fun (mw, mh, ms, mp, ml, mb, mm, md, mc, mhi, msw, mmi, mhc, ma, mq, mt) => fnd (fun k => decide (mb (8 * w + k) = q)) (mm w)
def md_leaves (w k : Nat) : MDu → MDu := fun (mw, mh, ms, mp, ml, mb, mm, md, mc, mhi, msw, mmi, mhc, ma, mq, mt) => (mw, mh, ms, mp, ml, shl mb (8 * w + k) (8 * w + (mm w - 1)), ru mm w (mm w - 1), md, mc, mhi, msw, mmi, mhc, ma, mq, mt)
def md_sits (w q : Nat) : MDu → MDu := fun (mw, mh, ms, mp, ml, mb, mm, md, mc, mhi, msw, mmi, mhc, ma, mq, mt) => (mw, mh, ms, mp, ml, ru (shr mb (8 * w) (8 * w + mm w)) (8 * w) q, ru mm w (mm w + 1), md, mc, mhi, msw, mmi, mhc, ma, mq, mt)
def md_last (w : Nat) : MDu → Nat := fun (mw, mh, ms, mp, ml, mb, mm, md, mc, mhi, msw, mmi, mhc, ma, mq, mt) => mb (8 * w + mm w - 1)
def md_throws (w s q : Nat) : MDu → MDu := fun (mw, mh, ms, mp, ml, mb, mm, md, mc, mhi, msw, mmi, mhc, ma, mq, mt) => if mp w = 0 then md_goes w q (mw, mh, ms, mp, ru ml (16 * w + s) none, mb, mm, md, mc, mhi, msw, mmi, mhc, ma, mq, mt) else if mm w = mp w then md_sits w q (md_goes w (mb (8 * w + mm w - 1)) (mw, mh, ms, mp, ru ml (16 * w + s) none, mb, ru mm w (mm w - 1), md, mc, mhi, msw, mmi, mhc, ma, mq, mt)) else md_sits w q (mw, mh, ms, mp, ru ml (16 * w + s) none, mb, mm, md, mc, mhi, msw, mmi, mhc, ma, mq, mt)
def md_cost (w : Nat) (x : Int32) : MDu → MDu := fun (mw, mh, ms, mp, ml, mb, mm, md, mc, mhi, msw, mmi, mhc, ma, mq, mt) => (mw, mh, ms, mp, ml, mb, mm, md, ru mc w (mc w + x), mhi, msw, mmi, mhc, ma, mq, mt)
def md_put (w s q : Nat) : MDu → MDu := fun (mw, mh, ms, mp, ml, mb, mm, md, mc, mhi, msw, mmi, mhc, ma, mq, mt) => (mw, mh, ms, mp, ru ml (16 * w + s) (some q), mb, mm, md, mc, mhi, msw, mmi, mhc, ma, mq, mt)
def md_acc (w q : Nat) : MDu → MDu := fun (mw, mh, ms, mp, ml, mb, mm, md, mc, mhi, msw, mmi, mhc, ma, mq, mt) => match ml (16 * w + q % ms w) with
  | none => (match fnd (fun k => decide (mb (8 * w + k) = q)) (mm w) with
    | none => md_put w (q % ms w) q (md_cost w 20 (mw, mh, ms, mp, ml, mb, mm, md, mc, mhi, msw, mmi, mhc, ma, mq, mt))
    | some k => md_put w (q % ms w) q (md_leaves w k (md_cost w 3 (mw, mh, ms, mp, ml, mb, mm, md, mc, mhi, msw, mmi, mhc, ma, mq, mt))))
  | some r => if r = q then md_cost w 1 (mw, mh, ms, mp, ml, mb, mm, md, mc, mhi, msw, mmi, mhc, ma, mq, mt) else (match fnd (fun k => decide (mb (8 * w + k) = q)) (mm w) with
    | none => md_put w (q % ms w) q (md_throws w (q % ms w) r (md_cost w 20 (mw, mh, ms, mp, ml, mb, mm, md, mc, mhi, msw, mmi, mhc, ma, mq, mt)))
    | some k => md_put w (q % ms w) q (md_sits w r (md_leaves w k (md_cost w 3 (mw, mh, ms, mp, ml, mb, mm, md, mc, mhi, msw, mmi, mhc, ma, mq, mt)))))
def md_what (w q : Nat) : MDu → Nat := fun (mw, mh, ms, mp, ml, mb, mm, md, mc, mhi, msw, mmi, mhc, ma, mq, mt) => if ml (16 * w + q % ms w) = some q then 0 else if (fnd (fun k => decide (mb (8 * w + k) = q)) (mm w)).isSome then 1 else 2
def md_mark (j : Nat) (b : Bool) : MDu → MDu := fun (mw, mh, ms, mp, ml, mb, mm, md, mc, mhi, msw, mmi, mhc, ma, mq, mt) => (mw, mh, ms, mp, ml, mb, mm, if b then ru md j true else md, mc, mhi, msw, mmi, mhc, ma, mq, mt)
def md_note (x : Nat) : MDu → MDu := fun (mw, mh, ms, mp, ml, mb, mm, md, mc, mhi, msw, mmi, mhc, ma, mq, mt) => if mq = 150 then (mw, mh, ms, mp, ml, mb, mm, md, mc, mhi, msw, mmi, mhc, ru (shl ma 0 149) 149 x, 150, mt) else (mw, mh, ms, mp, ml, mb, mm, md, mc, mhi, msw, mmi, mhc, ru ma mq x, mq + 1, mt)
def md_tell (v : Nat) : MDu → MDu := fun (mw, mh, ms, mp, ml, mb, mm, md, mc, mhi, msw, mmi, mhc, ma, mq, mt) => (mw, mh, ms, mp, ml, mb, mm, md, mc, mhi + (if v = 0 then 1 else 0), msw + (if v = 1 then 1 else 0), mmi + (if v = 2 then 1 else 0), mhc, ma, mq, mt)
def md_ask (q : Nat) (b : Bool) (x : MDu) : MDu := md_note (2 * q + (if b then 1 else 0)) (md_mark q b (md_tell (md_what 0 q x) (md_acc 0 q x)))
def md_thr (k : Nat) : MDu → MDu := fun (mw, mh, ms, mp, ml, mb, mm, md, mc, mhi, msw, mmi, mhc, ma, mq, mt) => (mw, mh, ms, mp, ml, mb, mm, md, mc, mhi, msw, mmi, mhc, ma, mq, k)
def md_set (a : Nat) (v : Int32) : MDu → MDu := fun (mw, mh, ms, mp, ml, mb, mm, md, mc, mhi, msw, mmi, mhc, ma, mq, mt) => (ru mw a v, mh, ms, mp, ml, mb, mm, md, mc, mhi, msw, mmi, mhc, ma, mq, mt)
def md_steps (a : Nat) (z : Int) (k : Nat) (x : MDu) : MDu := match k with
  | 0 => x
  | k + 1 => md_ask (adr a z k / 4) false (md_steps a z k x)
def md_bhs (i : Nat) (x : MDu) : MDu := match i with
  | 0 => x
  | i + 1 => md_goes 0 i (md_bhs i x)
def md_size (w s' p' : Nat) : MDu → MDu := fun (mw, mh, ms, mp, ml, mb, mm, md, mc, mhi, msw, mmi, mhc, ma, mq, mt) => (mw, mh, ru ms w s', ru mp w p', ml, mb, mm, md, mc, mhi, msw, mmi, mhc, ma, mq, mt)
def md_zero (w : Nat) : MDu → MDu := fun (mw, mh, ms, mp, ml, mb, mm, md, mc, mhi, msw, mmi, mhc, ma, mq, mt) => (mw, mh, ms, mp, ml, mb, mm, md, ru mc w 0, mhi, msw, mmi, mhc, ma, mq, mt)
def md_co : MDu → Nat → Int32 := fun (mw, mh, ms, mp, ml, mb, mm, md, mc, mhi, msw, mmi, mhc, ma, mq, mt) => mc
def md_dt : MDu → Nat → Bool := fun (mw, mh, ms, mp, ml, mb, mm, md, mc, mhi, msw, mmi, mhc, ma, mq, mt) => md
def md_ml : MDu → Nat → Option Nat := fun (mw, mh, ms, mp, ml, mb, mm, md, mc, mhi, msw, mmi, mhc, ma, mq, mt) => ml
def md_asked : MDu → Nat → Nat := fun (mw, mh, ms, mp, ml, mb, mm, md, mc, mhi, msw, mmi, mhc, ma, mq, mt) => ma
def md_many : MDu → Nat := fun (mw, mh, ms, mp, ml, mb, mm, md, mc, mhi, msw, mmi, mhc, ma, mq, mt) => mq
def md_lines : MDu → Nat := fun (mw, mh, ms, mp, ml, mb, mm, md, mc, mhi, msw, mmi, mhc, ma, mq, mt) => cnt (fun s => (ml s).isSome) (ms 0) + mm 0
def md_try (k : Nat) (x : MDu) : MDu := match k with
  | 0 => x
  | k + 1 => md_mark (256 + md_asked x k / 2) (decide (md_asked x k % 2 = 1)) (md_acc 1 (md_asked x k / 2) (md_try k x))
def md_tried (s' p' : Nat) (x : MDu) : MDu := md_try (md_many x) (md_zero 1 (md_size 1 s' p' (md_empties 1 x)))
def md_best (s' : Nat) (k : Nat) (x : MDu) : Nat × Int32 × MDu := match k with
  | 0 => (0, md_co (md_tried s' 0 x) 1, md_tried s' 0 x)
  | k + 1 => match md_best s' k x with
    | (b, y, t) => if md_co (md_tried s' (k + 1) t) 1 < y then (k + 1, md_co (md_tried s' (k + 1) t) 1, md_tried s' (k + 1) t) else (b, y, md_tried s' (k + 1) t)
def md_where (q : Nat) : MDu → Nat := fun (mw, mh, ms, mp, ml, mb, mm, md, mc, mhi, msw, mmi, mhc, ma, mq, mt) => if ml (q % ms 0) = some q then 1 else if (fnd (fun k => decide (mb (8 * 0 + k) = q)) (mm 0)).isSome then 2 else 0
/-- small enough for every index -/
def md_bd (w : Nat) : MDu → Prop := fun (mw, mh, ms, mp, ml, mb, mm, md, mc, mhi, msw, mmi, mhc, ma, mq, mt) => (ms w = 1 ∨ ms w = 2 ∨ ms w = 4 ∨ ms w = 8 ∨ ms w = 16) ∧ mp w ≤ 8 ∧ mm w ≤ mp w ∧ (∀ s q, s < 16 → ml (16 * w + s) = some q → q < 256) ∧ ∀ k, k < mm w → mb (8 * w + k) < 256
def md_abd : MDu → Prop := fun (mw, mh, ms, mp, ml, mb, mm, md, mc, mhi, msw, mmi, mhc, ma, mq, mt) => mq ≤ 150 ∧ ∀ k, k < 150 → ma k < 512
theorem md_bd_thr {x : MDu} {w : Nat} (k : Nat) (h : md_bd w x) : md_bd w (md_thr k x) := h
theorem md_abd_thr {x : MDu} (k : Nat) (h : md_abd x) : md_abd (md_thr k x) := h
theorem bI_1 {b : Bool} (h : bI b = 1) : b = true := by
  cases b
  · exact absurd h (by decide)
  · rfl
theorem nI_bI (n : Nat) (b : Bool) : nI n + bI b = nI (n + (if b then 1 else 0)) := by
  cases b
  · show nI n + nI 0 = _
    rw [nI_add]; rfl
  · show nI n + nI 1 = _
    rw [nI_add]; rfl
theorem md_bd_goes {x : MDu} {w : Nat} (q : Nat) (h : md_bd w x) : md_bd w (md_goes w q x) := by
  obtain ⟨mw, mh, ms, mp, ml, mb, mm, md, mc, mhi, msw, mmi, mhc, ma, mq, mt⟩ := x
  unfold md_goes
  dsimp only
  split
  · exact h
  · exact h
theorem md_bd_leaves {x : MDu} {w k : Nat} (h : md_bd w x) : md_bd w (md_leaves w k x) := by
  obtain ⟨mw, mh, ms, mp, ml, mb, mm, md, mc, mhi, msw, mmi, mhc, ma, mq, mt⟩ := x
  obtain ⟨h1, h2, h3, h4, h5⟩ := h
  refine ⟨h1, h2, ?_, h4, ?_⟩
  · show ru mm w (mm w - 1) w ≤ mp w
    rw [ru_s]; omega
  · intro j hj
    have hj : j < ru mm w (mm w - 1) w := hj
    rw [ru_s] at hj
    show shl mb (8 * w + k) (8 * w + (mm w - 1)) (8 * w + j) < 256
    unfold shl
    split
    · rw [Nat.add_assoc]
      exact h5 _ (by omega)
    · exact h5 _ (by omega)
theorem md_bd_sits {x : MDu} {w q : Nat} (hq : q < 256) (hm : x.2.2.2.2.2.2.1 w < x.2.2.2.1 w) (h : md_bd w x) : md_bd w (md_sits w q x) := by
  obtain ⟨mw, mh, ms, mp, ml, mb, mm, md, mc, mhi, msw, mmi, mhc, ma, mq, mt⟩ := x
  obtain ⟨h1, h2, h3, h4, h5⟩ := h
  have hm : mm w < mp w := hm
  refine ⟨h1, h2, ?_, h4, ?_⟩
  · show ru mm w (mm w + 1) w ≤ mp w
    rw [ru_s]; omega
  · intro j hj
    have hj : j < ru mm w (mm w + 1) w := hj
    rw [ru_s] at hj
    show ru (shr mb (8 * w) (8 * w + mm w)) (8 * w) q (8 * w + j) < 256
    unfold ru shr
    split
    · exact hq
    · split
      · rw [show 8 * w + j - 1 = 8 * w + (j - 1) by omega]
        exact h5 _ (by omega)
      · exact h5 _ (by omega)
theorem md_bd_none {w s : Nat} {mw : Nat → Int32} {mh : Nat → Int32} {ms : Nat → Nat} {mp : Nat → Nat} {ml : Nat → Option Nat} {mb : Nat → Nat} {mm : Nat → Nat} {md : Nat → Bool} {mc : Nat → Int32} {mhi : Int32} {msw : Int32} {mmi : Int32} {mhc : Int32} {ma : Nat → Nat} {mq : Nat} {mt : Nat} (h : md_bd w (mw, mh, ms, mp, ml, mb, mm, md, mc, mhi, msw, mmi, mhc, ma, mq, mt)) : md_bd w (mw, mh, ms, mp, ru ml (16 * w + s) none, mb, mm, md, mc, mhi, msw, mmi, mhc, ma, mq, mt) := by
  obtain ⟨h1, h2, h3, h4, h5⟩ := h
  refine ⟨h1, h2, h3, fun s' q hs hq => ?_, h5⟩
  have hq : ru ml (16 * w + s) none (16 * w + s') = some q := hq
  unfold ru at hq
  split at hq
  · cases hq
  · exact h4 s' q hs hq
theorem md_bd_dec {w : Nat} {mw : Nat → Int32} {mh : Nat → Int32} {ms : Nat → Nat} {mp : Nat → Nat} {ml : Nat → Option Nat} {mb : Nat → Nat} {mm : Nat → Nat} {md : Nat → Bool} {mc : Nat → Int32} {mhi : Int32} {msw : Int32} {mmi : Int32} {mhc : Int32} {ma : Nat → Nat} {mq : Nat} {mt : Nat} (h : md_bd w (mw, mh, ms, mp, ml, mb, mm, md, mc, mhi, msw, mmi, mhc, ma, mq, mt)) : md_bd w (mw, mh, ms, mp, ml, mb, ru mm w (mm w - 1), md, mc, mhi, msw, mmi, mhc, ma, mq, mt) := by
  obtain ⟨h1, h2, h3, h4, h5⟩ := h
  refine ⟨h1, h2, ?_, h4, ?_⟩
  · show ru mm w (mm w - 1) w ≤ mp w
    rw [ru_s]; omega
  · intro j hj
    have hj : j < ru mm w (mm w - 1) w := hj
    rw [ru_s] at hj
    exact h5 _ (by omega)
theorem md_goes_many {x : MDu} {w q : Nat} : (md_goes w q x).2.2.2.2.2.2.1 = x.2.2.2.2.2.2.1 ∧ (md_goes w q x).2.2.2.1 = x.2.2.2.1 := by
  obtain ⟨mw, mh, ms, mp, ml, mb, mm, md, mc, mhi, msw, mmi, mhc, ma, mq, mt⟩ := x
  unfold md_goes
  dsimp only
  split
  · exact ⟨rfl, rfl⟩
  · exact ⟨rfl, rfl⟩
theorem md_bd_throws {x : MDu} {w s q : Nat} (hq : q < 256) (h : md_bd w x) : md_bd w (md_throws w s q x) := by
  obtain ⟨mw, mh, ms, mp, ml, mb, mm, md, mc, mhi, msw, mmi, mhc, ma, mq, mt⟩ := x
  have h0 := h
  obtain ⟨h1, h2, h3, h4, h5⟩ := h0
  unfold md_throws
  dsimp only
  split
  · exact md_bd_goes q (md_bd_none h)
  · rename_i hp
    split
    · rename_i hm
      refine md_bd_sits hq ?_ (md_bd_goes _ (md_bd_dec (md_bd_none h)))
      rw [md_goes_many.1, md_goes_many.2]
      show ru mm w (mm w - 1) w < mp w
      rw [ru_s]; omega
    · rename_i hm
      exact md_bd_sits hq (show mm w < mp w by omega) (md_bd_none h)
theorem md_bd_put {x : MDu} {w s q : Nat} (hq : q < 256) (h : md_bd w x) : md_bd w (md_put w s q x) := by
  obtain ⟨mw, mh, ms, mp, ml, mb, mm, md, mc, mhi, msw, mmi, mhc, ma, mq, mt⟩ := x
  obtain ⟨h1, h2, h3, h4, h5⟩ := h
  refine ⟨h1, h2, h3, fun s' r hs hr => ?_, h5⟩
  have hr : ru ml (16 * w + s) (some q) (16 * w + s') = some r := hr
  unfold ru at hr
  split at hr
  · cases hr; exact hq
  · exact h4 s' r hs hr
theorem md_bd_acc {x : MDu} {w q : Nat} (hq : q < 256) (h : md_bd w x) : md_bd w (md_acc w q x) := by
  obtain ⟨mw, mh, ms, mp, ml, mb, mm, md, mc, mhi, msw, mmi, mhc, ma, mq, mt⟩ := x
  have h0 := h
  obtain ⟨h1, h2, h3, h4, h5⟩ := h0
  have hs := mod16 q h1
  unfold md_acc
  dsimp only
  split
  · split
    · exact md_bd_put hq h
    · exact md_bd_put hq (md_bd_leaves (show md_bd w (md_cost w 3 (mw, mh, ms, mp, ml, mb, mm, md, mc, mhi, msw, mmi, mhc, ma, mq, mt)) from h))
  · rename_i r hr
    have hr2 := h4 _ _ hs hr
    split
    · exact h
    · split
      · exact md_bd_put hq (md_bd_throws hr2 (show md_bd w (md_cost w 20 (mw, mh, ms, mp, ml, mb, mm, md, mc, mhi, msw, mmi, mhc, ma, mq, mt)) from h))
      · rename_i k hk
        obtain ⟨hk, -⟩ := fnd_of_some hk
        refine md_bd_put hq (md_bd_sits hr2 ?_ (md_bd_leaves (show md_bd w (md_cost w 3 (mw, mh, ms, mp, ml, mb, mm, md, mc, mhi, msw, mmi, mhc, ma, mq, mt)) from h)))
        show ru mm w (mm w - 1) w < mp w
        rw [ru_s]; omega
theorem md_bd_mark {x : MDu} {w : Nat} (j : Nat) (b : Bool) (h : md_bd w x) : md_bd w (md_mark j b x) := h
theorem md_bd_tell {x : MDu} {w : Nat} (v : Nat) (h : md_bd w x) : md_bd w (md_tell v x) := h
theorem md_bd_note {x : MDu} {w : Nat} (y : Nat) (h : md_bd w x) : md_bd w (md_note y x) := by
  obtain ⟨mw, mh, ms, mp, ml, mb, mm, md, mc, mhi, msw, mmi, mhc, ma, mq, mt⟩ := x
  obtain ⟨h1, h2, h3, h4, h5⟩ := h
  unfold md_note
  dsimp only
  split
  · exact ⟨h1, h2, h3, h4, h5⟩
  · exact ⟨h1, h2, h3, h4, h5⟩
theorem md_bd_ask {x : MDu} {q : Nat} (b : Bool) (hq : q < 256) (h : md_bd 0 x) : md_bd 0 (md_ask q b x) := md_bd_note _ (md_bd_mark _ _ (md_bd_tell _ (md_bd_acc hq h)))
/-- what an access leaves alone -/
theorem md_acc_asked {x : MDu} {w q : Nat} : md_asked (md_acc w q x) = md_asked x ∧ md_many (md_acc w q x) = md_many x := by
  obtain ⟨mw, mh, ms, mp, ml, mb, mm, md, mc, mhi, msw, mmi, mhc, ma, mq, mt⟩ := x
  have hg : ∀ (w q : Nat) (x : MDu), md_asked (md_goes w q x) = md_asked x ∧ md_many (md_goes w q x) = md_many x := by
    intro w q x
    obtain ⟨mw1, mh1, ms1, mp1, ml1, mb1, mm1, md1, mc1, mhi1, msw1, mmi1, mhc1, ma1, mq1, mt1⟩ := x
    unfold md_goes
    dsimp only
    split
    · exact ⟨rfl, rfl⟩
    · exact ⟨rfl, rfl⟩
  have hs : ∀ (w q : Nat) (x : MDu), md_asked (md_sits w q x) = md_asked x ∧ md_many (md_sits w q x) = md_many x := fun _ _ _ => ⟨rfl, rfl⟩
  have hp : ∀ (w s q : Nat) (x : MDu), md_asked (md_put w s q x) = md_asked x ∧ md_many (md_put w s q x) = md_many x := fun _ _ _ _ => ⟨rfl, rfl⟩
  unfold md_acc
  dsimp only
  split
  · split
    · exact ⟨rfl, rfl⟩
    · exact ⟨rfl, rfl⟩
  · split
    · exact ⟨rfl, rfl⟩
    · split
      · rw [(hp _ _ _ _).1, (hp _ _ _ _).2]
        unfold md_throws
        dsimp only [md_cost]
        split
        · rw [(hg _ _ _).1, (hg _ _ _).2]; exact ⟨rfl, rfl⟩
        · split
          · rw [(hs _ _ _).1, (hs _ _ _).2, (hg _ _ _).1, (hg _ _ _).2]; exact ⟨rfl, rfl⟩
          · exact ⟨rfl, rfl⟩
      · exact ⟨rfl, rfl⟩
theorem md_abd_note {x : MDu} {y : Nat} (hy : y < 512) (h : md_abd x) : md_abd (md_note y x) := by
  obtain ⟨mw, mh, ms, mp, ml, mb, mm, md, mc, mhi, msw, mmi, mhc, ma, mq, mt⟩ := x
  obtain ⟨h1, h2⟩ := h
  unfold md_note
  dsimp only
  split
  · refine ⟨Nat.le_refl _, fun k hk => ?_⟩
    show ru (shl ma 0 149) 149 y k < 512
    unfold ru shl
    split
    · exact hy
    · split
      · exact h2 _ (by omega)
      · exact h2 _ hk
  · refine ⟨by show mq + 1 ≤ 150; omega, fun k hk => ?_⟩
    show ru ma mq y k < 512
    unfold ru
    split
    · exact hy
    · exact h2 _ hk
theorem md_abd_of {x y : MDu} (h1 : md_asked y = md_asked x) (h2 : md_many y = md_many x) (h : md_abd x) : md_abd y := by
  obtain ⟨mw, mh, ms, mp, ml, mb, mm, md, mc, mhi, msw, mmi, mhc, ma, mq, mt⟩ := x
  obtain ⟨mw1, mh1, ms1, mp1, ml1, mb1, mm1, md1, mc1, mhi1, msw1, mmi1, mhc1, ma1, mq1, mt1⟩ := y
  have h1 : ma1 = ma := h1
  have h2 : mq1 = mq := h2
  subst h1; subst h2
  exact h
theorem md_abd_ask {x : MDu} {q : Nat} (b : Bool) (hq : q < 256) (h : md_abd x) : md_abd (md_ask q b x) := by
  refine md_abd_note (by split <;> omega) ?_
  obtain ⟨e1, e2⟩ := md_acc_asked (x := x) (w := 0) (q := q)
  exact md_abd_of (x := x) (by show md_asked (md_acc 0 q x) = _; exact e1) (by show md_many (md_acc 0 q x) = _; exact e2) h
theorem md_steps_bd {a : Nat} {z : Int} {x : MDu} (ha : a < 1024) (h : md_bd 0 x) (h2 : md_abd x) : ∀ k, md_bd 0 (md_steps a z k x) ∧ md_abd (md_steps a z k x)
  | 0 => ⟨h, h2⟩
  | k + 1 => by
    have h9 := adr_lt z ha k
    obtain ⟨i1, i2⟩ := md_steps_bd (z := z) ha h h2 k
    exact ⟨md_bd_ask _ (by omega) i1, md_abd_ask _ (by omega) i2⟩
theorem md_what_3 (w q : Nat) (x : MDu) : md_what w q x = 0 ∨ md_what w q x = 1 ∨ md_what w q x = 2 := by
  obtain ⟨mw, mh, ms, mp, ml, mb, mm, md, mc, mhi, msw, mmi, mhc, ma, mq, mt⟩ := x
  unfold md_what
  dsimp only
  split
  · exact Or.inl rfl
  · split
    · exact Or.inr (Or.inl rfl)
    · exact Or.inr (Or.inr rfl)
theorem md_try_asked {x : MDu} : ∀ k, md_asked (md_try k x) = md_asked x ∧ md_many (md_try k x) = md_many x
  | 0 => ⟨rfl, rfl⟩
  | k + 1 => by
    obtain ⟨e1, e2⟩ := md_try_asked (x := x) k
    obtain ⟨e3, e4⟩ := md_acc_asked (x := md_try k x) (w := 1) (q := md_asked x k / 2)
    exact ⟨by show md_asked (md_acc 1 _ _) = _; rw [e3, e1], by show md_many (md_acc 1 _ _) = _; rw [e4, e2]⟩
theorem md_bd_try {x : MDu} (h : md_bd 1 x) (ha : md_abd x) (hm : md_many x ≤ 150) : ∀ k, k ≤ md_many x → md_bd 1 (md_try k x)
  | 0, _ => h
  | k + 1, hk => by
    have hq : md_asked x k < 512 := by
      obtain ⟨mw, mh, ms, mp, ml, mb, mm, md, mc, mhi, msw, mmi, mhc, ma, mq, mt⟩ := x
      exact ha.2 k (by have hk : k + 1 ≤ mq := hk; have hm : mq ≤ 150 := hm; omega)
    exact md_bd_mark _ _ (md_bd_acc (by omega) (md_bd_try h ha hm k (by omega)))
theorem md_bd_new {x : MDu} {w s' p' : Nat} (hs : s' = 1 ∨ s' = 2 ∨ s' = 4 ∨ s' = 8 ∨ s' = 16) (hp : p' ≤ 8) : md_bd w (md_size w s' p' (md_empties w x)) := by
  obtain ⟨mw, mh, ms, mp, ml, mb, mm, md, mc, mhi, msw, mmi, mhc, ma, mq, mt⟩ := x
  refine ⟨?_, ?_, ?_, ?_, ?_⟩
  · show ru ms w s' w = 1 ∨ ru ms w s' w = 2 ∨ ru ms w s' w = 4 ∨ ru ms w s' w = 8 ∨ ru ms w s' w = 16
    rw [ru_s]; exact hs
  · show ru mp w p' w ≤ 8
    rw [ru_s]; exact hp
  · show ru mm w 0 w ≤ ru mp w p' w
    rw [ru_s, ru_s]; exact Nat.zero_le _
  · intro s q hs hq
    have hq : fil ml (16 * w) (16 * w + 16) none (16 * w + s) = some q := hq
    rw [fil_in (by omega) (by omega)] at hq
    cases hq
  · intro k hk
    have hk : k < ru mm w 0 w := hk
    rw [ru_s] at hk
    exact absurd hk (Nat.not_lt_zero _)
theorem nI_le0 {k : Nat} (h : k < 2 ^ 31) (c1 : nI k ≤ 0) : k = 0 := by
  rcases Nat.eq_zero_or_pos k with h8 | h8
  · exact h8
  · exact absurd c1 (nI_nle h8 h)
theorem nI_nle0 {k : Nat} (c1 : ¬ nI k ≤ 0) : 0 < k := by
  rcases Nat.eq_zero_or_pos k with h8 | h8
  · exact absurd (by rw [h8]; decide) c1
  · exact h8
